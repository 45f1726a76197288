/-! THE MODEL goes through a text's steps -/
theorem tok_num : ∀ a, a < 5 → ∀ h, h < 3 → ∀ n, n < 100 → (Int32.ofNat (a + 8 * h + 32 * n) &&& 7 = Int32.ofNat a ∧ Int32.ofNat (a + 8 * h + 32 * n) >>> 3 &&& 3 = Int32.ofNat h ∧ Int32.ofNat (a + 8 * h + 32 * n) >>> 5 = Int32.ofNat n) ∧ Int32.ofNat (a + 8 * h + 32 * n) / 8 - Int32.ofNat (a + 8 * h + 32 * n) / 8 / 4 * 4 = Int32.ofNat h ∧ Int32.ofNat (a + 8 * h + 32 * n) / 32 = Int32.ofNat n ∧ Int32.ofNat (a + 8 * h + 32 * n) - Int32.ofNat (a + 8 * h + 32 * n) / 8 * 8 = Int32.ofNat a := by decide +kernel
def tsm (x tok : Int32) : Bool := if tok / 8 - tok / 8 / 4 * 4 = 0 then decide (x < tok / 32) else if tok / 8 - tok / 8 / 4 * 4 = 1 then decide (x = tok / 32) else decide (tok / 32 < x)
theorem s_133 (d : Nat) (tok x : Int32) (ν : MM) : ev d 133 0 [.int tok, .int x] [] (fx ν) = some (some (.int (bI (tsm x tok))), fx ν) := by
  rw [e_133_0, e_133_1, e_133_4, e_133_5, e_133_8, e_133_3, e_133_2, e_133_6, e_133_7, e_133_10, e_133_9, e_133_11, e_133_11, b01_0, b01_1, gd_t, gd_t, ite_01, ite_bI, ite_01, not_le_d, not_le_d]
  unfold tsm
  by_cases c0 : tok / 8 - tok / 8 / 4 * 4 = 0
  · rw [if_pos c0, if_pos c0]
  · rw [if_neg c0, if_neg c0]
    by_cases c1 : tok / 8 - tok / 8 / 4 * 4 = 1
    · rw [if_pos c1, if_pos c1]
    · rw [if_neg c1, if_neg c1]
theorem tsm_tst {t : Int32} (h : okT t) (x : Int32) : tsm x t = tst x t := by
  obtain ⟨a, k, n, ha, hk, hn, rfl⟩ := h
  obtain ⟨⟨-, h2, h3⟩, h4, h5, -⟩ := tok_num a ha k hk n hn
  unfold tsm tst
  rw [h2, h3, h4, h5]
/-- a step out of a token -/
def cvt (t : Int32) : Int32 := if t = 5 then -1 else if t = 6 then -2 else if t = 7 then -3 else t
theorem cvt5 : cvt 5 = -1 := rfl
theorem cvt6 : cvt 6 = -2 := rfl
theorem cvt7 : cvt 7 = -3 := rfl
theorem okT_and {t : Int32} (h : okT t) : ∃ a, a < 5 ∧ t &&& 7 = Int32.ofNat a ∧ t - t / 8 * 8 = Int32.ofNat a := by
  obtain ⟨a, k, n, ha, hk, hn, rfl⟩ := h
  obtain ⟨⟨h1, -, -⟩, -, -, h2⟩ := tok_num a ha k hk n hn
  exact ⟨a, ha, h1, h2⟩
theorem okT_ne {t : Int32} (h : okT t) : t &&& 7 ≠ 5 ∧ t &&& 7 ≠ 6 ∧ t &&& 7 ≠ 7 := by
  obtain ⟨a, ha, h1, -⟩ := okT_and h
  rw [h1]
  have q : ∀ a, a < 5 → Int32.ofNat a ≠ 5 ∧ Int32.ofNat a ≠ 6 ∧ Int32.ofNat a ≠ 7 := by decide
  exact q a ha
theorem okT_cvt {t : Int32} (h : okT t) : cvt t = t := by
  obtain ⟨h5, h6, h7⟩ := okT_ne h
  unfold cvt
  rw [if_neg (fun e => h5 (by rw [e]; rfl)), if_neg (fun e => h6 (by rw [e]; rfl)), if_neg (fun e => h7 (by rw [e]; rfl))]
theorem okT_pos {t : Int32} (h : okT t) : ¬ t < 0 := by
  obtain ⟨a, k, n, ha, hk, hn, rfl⟩ := h
  exact Int32.not_lt.mpr (Int32.zero_le_ofNat_of_lt (by omega))
theorem O_sub1 (i : Nat) : Int32.ofNat (i + 1) - 1 = Int32.ofNat i := by
  have e : Int32.ofNat (i + 1) = Int32.ofNat i + 1 := Int32.ofNat_add i 1
  rw [e, Int32.add_sub_cancel]
theorem O_dec (i : Nat) : Int32.ofNat (i + 1) + (-1) = Int32.ofNat i := by
  rw [← Int32.sub_eq_add_neg, O_sub1]
/-- the truths stand for a stack -/
def TR (ν : MM) : List Bool → Prop
  | [] => True
  | a :: r => gI ν 50 r.length = bI a ∧ TR ν r
theorem TR_w {ν : MM} {k : Nat} {v : Int32} : ∀ {s : List Bool}, s.length ≤ k → TR ν s → TR (sI ν 50 k v) s
  | [], _, _ => trivial
  | a :: r, hl, h => by
    have hl : r.length + 1 ≤ k := hl
    refine ⟨?_, TR_w (by omega) h.2⟩
    rw [gI_sI, if_neg (by omega)]
    exact h.1
def Pg (q k : Nat) : Bool := Nat.beq q 50 || (Nat.beq q 46 && (Nat.beq k 12 || (Nat.beq k 13 || Nat.beq k 14)))
def Q0 (_ : Nat) : Bool := false
def P5 (q _ : Nat) : Bool := Nat.beq q 50
theorem P550 (k : Nat) : P5 50 k = true := rfl
theorem P5_Pg (q k : Nat) (h : Pg q k = false) : P5 q k = false := (Bool.or_eq_false_iff.mp h).1
theorem b5_w {ν : MM} {k : Nat} {b : Bool} (h : b01 (gI ν 50 0) = true) : b01 (gI (sI ν 50 k (bI b)) 50 0) = true := by
  rw [gI_sI]
  split
  · exact b01_bI b
  · exact h
theorem bI_ne (b : Bool) {α : Type} (x y : α) : (if bI b = 0 then x else y) = if b = true then y else x := bI_0 b x y
def fb (y : Nat → Int32) : Int32 → Bool := fun t => tst (y (t &&& 7).toNatClampNeg) t
/-- what one token asks of the truths that wait -/
def okh (t : Int32) (h : Nat) : Prop := if t &&& 7 = 5 then 1 ≤ h else if t &&& 7 = 6 then 2 ≤ h else if t &&& 7 = 7 then 2 ≤ h else h < 30
theorem g_tok (d : Nat) (F M : Int32) {ν : MM} {t : Int32} (ht : okK t) {s : List Bool} {i : Nat} (hi : i < 1562) (hm : ¬ F + M ≤ Int32.ofNat i) (hs : gI ν 47 i = cvt t) (hT : TR ν s) (hl : s.length ≤ 30) (hh : okh t s.length) : ∃ ν', ev (d + 1) 134 4 [.ref 46, .int F, .int M, .int (Int32.ofNat s.length), .int (Int32.ofNat i)] [] (fx ν) = ev (d + 1) 134 4 [.ref 46, .int F, .int M, .int (Int32.ofNat (stp (fb (gI ν 49)) s t).length), .int (Int32.ofNat (i + 1))] [] (fx ν') ∧ Fr P5 Q0 ν ν' ∧ TR ν' (stp (fb (gI ν 49)) s t) ∧ (b01 (gI ν 50 0) = true → b01 (gI ν' 50 0) = true) := by
  rw [e_134_4, if_neg hm, e_134_5, inb_O hi (by omega), tn_O (by omega), gd_t, hs]
  rcases ht with rfl | rfl | rfl | ht
  · rw [cvt5, if_pos (by decide), e_134_8, if_pos rfl, e_134_9]
    cases s with
    | nil => exact absurd hh (by unfold okh; rw [if_pos (by decide)]; decide)
    | cons a r =>
      have hl : r.length + 1 ≤ 30 := hl
      show ∃ ν', gd (inb (Int32.ofNat (r.length + 1) - 1) 64) _ = ev (d + 1) 134 4 [.ref 46, .int F, .int M, .int (Int32.ofNat (r.length + 1)), .int (Int32.ofNat (i + 1))] [] (fx ν') ∧ Fr P5 Q0 ν ν' ∧ TR ν' ((!a) :: r) ∧ (b01 (gI ν 50 0) = true → b01 (gI ν' 50 0) = true)
      refine ⟨sI ν 50 r.length (bI (!a)), ?_, Fr.wI _ (P550 _), ⟨by rw [gI_sI, if_pos ⟨rfl, rfl⟩], TR_w (Nat.le_refl _) hT.2⟩, b5_w⟩
      have hlen : (a :: r).length = r.length + 1 := rfl
      rw [hlen, O_sub1, inb_O (by omega) (by omega), gd_t, tn_O (by omega), hT.1, bI_0, e_134_10, e_134_11, e_134_12, e_134_12, inb_O (by omega) (by omega), tn_O (by omega), b01_0, b01_1, Bool.and_self, gd_t, gd_t, e_134_38, e_134_38, O_succ]
      cases a <;> rfl
  · rw [cvt6, if_pos (by decide), e_134_8, if_neg (by decide), e_134_13, if_neg (by decide), e_134_14, if_pos rfl, e_134_15]
    match s, hl, hT, hh with
    | [], _, _, hh => exact absurd hh (by unfold okh; rw [if_neg (by decide), if_pos (by decide)]; decide)
    | [a], _, _, hh => exact absurd hh (by unfold okh; rw [if_neg (by decide), if_pos (by decide)]; show ¬ 2 ≤ 1; decide)
    | a :: b :: r, hl, hT, _ =>
      have hl : r.length + 1 + 1 ≤ 30 := hl
      show ∃ ν', gd (inb (Int32.ofNat (r.length + 1 + 1) + (-1) - 1) 64) _ = ev (d + 1) 134 4 [.ref 46, .int F, .int M, .int (Int32.ofNat (r.length + 1)), .int (Int32.ofNat (i + 1))] [] (fx ν') ∧ Fr P5 Q0 ν ν' ∧ TR ν' ((b && a) :: r) ∧ (b01 (gI ν 50 0) = true → b01 (gI ν' 50 0) = true)
      refine ⟨sI ν 50 r.length (bI (b && a)), ?_, Fr.wI _ (P550 _), ⟨by rw [gI_sI, if_pos ⟨rfl, rfl⟩], TR_w (Nat.le_refl _) hT.2.2⟩, b5_w⟩
      have ha : gI ν 50 (r.length + 1) = bI a := hT.1
      show gd (inb (Int32.ofNat (r.length + 1 + 1) + (-1) - 1) 64) _ = _
      have hlen : (a :: b :: r).length = r.length + 1 + 1 := rfl
      rw [hlen, O_dec, O_sub1, inb_O (by omega) (by omega), gd_t, tn_O (by omega), hT.2.1, bI_0, e_134_18, e_134_16, inb_O (by omega) (by omega), gd_t, tn_O (by omega), ha, bI_0, e_134_18, e_134_17, e_134_23, e_134_23, inb_O (by omega) (by omega), tn_O (by omega), b01_0, b01_1, Bool.and_self, gd_t, gd_t, e_134_38, e_134_38, O_succ]
      cases a <;> cases b <;> rfl
  · rw [cvt7, if_pos (by decide), e_134_8, if_neg (by decide), e_134_13, if_neg (by decide), e_134_14, if_neg (by decide), e_134_19]
    match s, hl, hT, hh with
    | [], _, _, hh => exact absurd hh (by unfold okh; rw [if_neg (by decide), if_neg (by decide), if_pos (by decide)]; decide)
    | [a], _, _, hh => exact absurd hh (by unfold okh; rw [if_neg (by decide), if_neg (by decide), if_pos (by decide)]; show ¬ 2 ≤ 1; decide)
    | a :: b :: r, hl, hT, _ =>
      have hl : r.length + 1 + 1 ≤ 30 := hl
      show ∃ ν', gd (inb (Int32.ofNat (r.length + 1 + 1) + (-1) - 1) 64) _ = ev (d + 1) 134 4 [.ref 46, .int F, .int M, .int (Int32.ofNat (r.length + 1)), .int (Int32.ofNat (i + 1))] [] (fx ν') ∧ Fr P5 Q0 ν ν' ∧ TR ν' ((b || a) :: r) ∧ (b01 (gI ν 50 0) = true → b01 (gI ν' 50 0) = true)
      refine ⟨sI ν 50 r.length (bI (b || a)), ?_, Fr.wI _ (P550 _), ⟨by rw [gI_sI, if_pos ⟨rfl, rfl⟩], TR_w (Nat.le_refl _) hT.2.2⟩, b5_w⟩
      have ha : gI ν 50 (r.length + 1) = bI a := hT.1
      have hlen : (a :: b :: r).length = r.length + 1 + 1 := rfl
      rw [hlen, O_dec, O_sub1, inb_O (by omega) (by omega), gd_t, tn_O (by omega), hT.2.1, bI_0, e_134_20, e_134_21, inb_O (by omega) (by omega), gd_t, tn_O (by omega), ha, bI_0, e_134_22, e_134_23, e_134_23, inb_O (by omega) (by omega), tn_O (by omega), b01_0, b01_1, Bool.and_self, gd_t, gd_t, e_134_38, e_134_38, O_succ]
      cases a <;> cases b <;> rfl
  · obtain ⟨n5, n6, n7⟩ := okT_ne ht
    obtain ⟨x, hx, hx1, hx2⟩ := okT_and ht
    have hst : stp (fb (gI ν 49)) s t = fb (gI ν 49) t :: s := by unfold stp; rw [if_neg n5, if_neg n6, if_neg n7]
    have hl2 : s.length < 30 := by unfold okh at hh; rw [if_neg n5, if_neg n6, if_neg n7] at hh; exact hh
    rw [okT_cvt ht, if_neg (okT_pos ht), e_134_6, hx2, inb_O hx (by omega), gd_t, tn_O (by omega), s_133, bnd_1, app1, hst]
    refine ⟨sI ν 50 s.length (bI (fb (gI ν 49) t)), ?_, Fr.wI _ (P550 _), ⟨by rw [gI_sI, if_pos ⟨rfl, rfl⟩], TR_w (Nat.le_refl _) hT⟩, b5_w⟩
    have hf : tsm (gI ν 49 x) t = fb (gI ν 49) t := by
      rw [tsm_tst ht]
      unfold fb
      rw [hx1, tn_O (by omega)]
    refine (e_134_7 ..).trans ?_
    rw [hf, inb_O (by omega) (by omega), b01_bI, Bool.and_self, gd_t, tn_O (by omega), e_134_38, O_succ, O_succ]
    rfl
