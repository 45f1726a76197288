/-! a SAYING's steps; looks; E's truth depends on the names' values alone -/
theorem say_num : ∀ k, k < 5 → Int32.ofNat (5 + k) ≠ -1 ∧ (162 : Int32) + 140 * Int32.ofNat (5 + k) = Int32.ofNat (862 + 140 * k) ∧ (152 : Int32) + Int32.ofNat (5 + k) = Int32.ofNat (157 + k) ∧ (5 : Int32) + Int32.ofNat k = Int32.ofNat (5 + k) := by decide
def MSy (ν : MM) (S k : Nat) (ts : List Int32) : Prop := gI ν S (157 + k) = Int32.ofNat ts.length ∧ ts.length ≤ 140 ∧ (∀ t ∈ ts, okK t) ∧ hg ts 0 = some 1 ∧ ∀ j, (h : j < ts.length) → gI ν S (862 + 140 * k + j) = cvt ts[j]
theorem s_134s (d : Nat) {ν : MM} {k : Nat} {ts : List Int32} (hk : k < 5) (h : MSy ν 47 k ts) (hb : b01 (gI ν 50 0) = true) : ∃ ν', ev (d + 1) 134 0 [.ref 46, .int (Int32.ofNat (5 + k))] [] (fx ν) = some (some (.int (bI (hld (fb (gI ν 49)) ts))), fx ν') ∧ Fr Pg Q0 ν ν' ∧ b01 (gI ν' 50 0) = true := by
  obtain ⟨n1, n2, n3, -⟩ := say_num k hk
  obtain ⟨h1, h2, h3, h4, h5⟩ := h
  have f0 : Fr Pg Q0 ν (sI (sI (sI ν 46 12 0) 46 13 0) 46 14 0) := (Fr.wI _ rfl).tr ((Fr.wI _ rfl).tr (Fr.wI _ rfl))
  have z49 : gI (sI (sI (sI ν 46 12 0) 46 13 0) 46 14 0) 49 = gI ν 49 := f0.row rfl rfl
  have z47 : gI (sI (sI (sI ν 46 12 0) 46 13 0) 46 14 0) 47 = gI ν 47 := f0.row rfl rfl
  have zb : b01 (gI (sI (sI (sI ν 46 12 0) 46 13 0) 46 14 0) 50 0) = true := hb
  rw [e_134_0, if_neg n1, e_134_2, n3, inb_O (by omega) (by omega), gd_t, tn_O (by omega), z47, h1, e_134_3, n2]
  have hF : Int32.ofNat (862 + 140 * k) + Int32.ofNat ts.length = Int32.ofNat (862 + 140 * k + ts.length) := (Int32.ofNat_add _ _).symm
  obtain ⟨ν1, e1, f1, t1, l1, b1⟩ := g_toks (d) _ _ _ (by omega) hF ts _ [] (862 + 140 * k) 1 h3 h4 (by decide) trivial (by rw [z47]; exact h5) (Nat.le_refl _)
  rw [z49] at t1 l1
  have hb1 : gI ν1 50 0 = bI (hld (fb (gI ν 49)) ts) := by
    unfold hld
    match hq : ts.foldl (stp (fb (gI ν 49))) [], l1 with
    | [b], _ => rw [hq] at t1; exact t1.1
    | [], l => exact absurd l (by decide)
    | _ :: _ :: _, l => exact absurd l (by simp)
  have e2 := g_end (d + 1) (h := Int32.ofNat 1) hF (by omega) (b1 zb)
  rw [hb1] at e2
  exact ⟨_, e1.trans e2, f0.tr ((f1.mono P5_Pg (fun _ h => h)).tr (Fr.wI _ rfl)), b1 zb⟩
theorem stp_congr {f g : Int32 → Bool} {t : Int32} (s : List Bool) (h : t &&& 7 ≠ 5 → t &&& 7 ≠ 6 → t &&& 7 ≠ 7 → f t = g t) : stp f s t = stp g s t := by
  unfold stp
  by_cases c5 : t &&& 7 = 5
  · rw [if_pos c5, if_pos c5]
  · rw [if_neg c5, if_neg c5]
    by_cases c6 : t &&& 7 = 6
    · rw [if_pos c6, if_pos c6]
    · rw [if_neg c6, if_neg c6]
      by_cases c7 : t &&& 7 = 7
      · rw [if_pos c7, if_pos c7]
      · rw [if_neg c7, if_neg c7, h c5 c6 c7]
theorem fold_congr {f g : Int32 → Bool} : ∀ {ts : List Int32} (s : List Bool), (∀ t ∈ ts, t &&& 7 ≠ 5 → t &&& 7 ≠ 6 → t &&& 7 ≠ 7 → f t = g t) → ts.foldl (stp f) s = ts.foldl (stp g) s
  | [], _, _ => rfl
  | t :: ts, s, h => by
    rw [List.foldl_cons, List.foldl_cons, stp_congr s (h t (by simp))]
    exact fold_congr _ (fun t ht => h t (by simp [ht]))
theorem hld_congr {f g : Int32 → Bool} {ts : List Int32} (h : ∀ t ∈ ts, t &&& 7 ≠ 5 → t &&& 7 ≠ 6 → t &&& 7 ≠ 7 → f t = g t) : hld f ts = hld g ts := by
  unfold hld
  rw [fold_congr [] h]
theorem smc_congr {f g : Int32 → Bool} {w : Int32} : ∀ {cs : List Cl} (a : Int32), (∀ c ∈ cs, hld f c.2.2 = hld g c.2.2) → smc f w cs a = smc g w cs a
  | [], _, _ => rfl
  | c :: cs, a, h => by
    unfold smc
    rw [h c (by simp)]
    exact smc_congr _ (fun c hc => h c (by simp [hc]))
/-- facts hold the first B names' values -/
def Pck (B : Nat) (facts : Int32) (y : Nat → Int32) : Prop := ∀ a, a < B → facts >>> (Int32.ofNat (4 * a)) &&& 15 = y a
theorem four_num : ∀ a, a < 5 → (4 * Int32.ofNat a) &&& 31 = Int32.ofNat (4 * a) := by decide
theorem ff_fb {B : Nat} {facts : Int32} {y : Nat → Int32} (h : Pck B facts y) {t : Int32} (ht : okT t) (hB : ∃ a, a < B ∧ t &&& 7 = Int32.ofNat a) : ff facts t = fb y t := by
  obtain ⟨a, ha, e⟩ := hB
  obtain ⟨a', ha', e', -⟩ := okT_and ht
  have ea : a = a' ∨ B > 5 ∧ a ≥ 5 ∨ a < 5 := by omega
  obtain ⟨a2, h2, e2, -⟩ := okT_and ht
  unfold ff fb fct
  have key : ∀ x, x < 5 → t &&& 7 = Int32.ofNat x → x < B → tst (facts >>> ((4 * (t &&& 7)) &&& 31) &&& 15) t = tst (y (t &&& 7).toNatClampNeg) t := by
    intro x hx ex hxB
    rw [ex, four_num x hx, h x hxB, tn_O (by omega)]
  by_cases c : a2 < B
  · exact key a2 h2 e2 c
  · exfalso
    rw [e2] at e
    have : Int32.ofNat a2 = Int32.ofNat a ∧ a < a2 := ⟨e, by omega⟩
    rw [O_eq (by omega) (by omega)] at this
    omega
/-- tokens of a coast name four things at most, of a saying five -/
def okTs (B : Nat) (ts : List Int32) : Prop := ∀ t ∈ ts, okK t ∧ (okT t → ∃ a, a < B ∧ t &&& 7 = Int32.ofNat a)
theorem hld_ff {B : Nat} {facts : Int32} {y : Nat → Int32} (h : Pck B facts y) {ts : List Int32} (ht : okTs B ts) : hld (ff facts) ts = hld (fb y) ts := by
  refine hld_congr fun t hm c5 c6 c7 => ?_
  obtain ⟨h1, h2⟩ := ht t hm
  rcases h1 with rfl | rfl | rfl | h1
  · exact absurd rfl c5
  · exact absurd rfl c6
  · exact absurd rfl c7
  · exact ff_fb h h1 (h2 h1)
theorem tog_ff {B : Nat} {facts : Int32} {y : Nat → Int32} (h : Pck B facts y) {cs : List Cl} (hc : ∀ c ∈ cs, okTs B c.2.2) (w : Int32) : tog (ff facts) cs w = tog (fb y) cs w := by
  unfold tog
  rw [smc_congr 0 (fun c hm => hld_ff h (hc c hm))]
/-- the values that looks puts down -/
def by4 (t st h k : Int32) : Nat → Int32 := fun i => if i = 0 then t else if i = 1 then st else if i = 2 then h else k
def Pl (q k : Nat) : Bool := Nat.beq q 49 || Pg q k
theorem Pl_Pg (q k : Nat) (h : Pl q k = false) : Pg q k = false := (Bool.or_eq_false_iff.mp h).2
theorem Fr.rowl {ν ν' : MM} (h : Fr Pl Q0 ν ν') {q : Nat} (h9 : Nat.beq q 49 = false) (hq : Nat.beq q 50 = false) (hq2 : Nat.beq q 46 = false) : gI ν' q = gI ν q := by
  funext k
  refine h.rI q k ?_
  unfold Pl Pg
  rw [h9, hq, hq2]
  rfl
theorem MCo.of {ν ν' : MM} {S S' : Nat} {cs : List Cl} (h : gI ν' S' = gI ν S) (g : MCo ν S cs) : MCo ν' S' cs := by
  rcases g with ⟨h1, h2⟩ | ⟨a, h1, h2, h3, h4, h5⟩
  · exact Or.inl ⟨by rw [h]; exact h1, h2⟩
  · exact Or.inr ⟨a, h1, by rw [h]; exact h2, by rw [h]; exact h3, h4, StA.of h h5⟩
theorem MSy.of {ν ν' : MM} {S S' k : Nat} {ts : List Int32} (h : gI ν' S' = gI ν S) (g : MSy ν S k ts) : MSy ν' S' k ts := by
  unfold MSy at g ⊢
  rw [h]
  exact g
theorem fb_congr {f g : Nat → Int32} {cs : List Cl} (hc : ∀ c ∈ cs, okTs 4 c.2.2) (h : ∀ a, a < 4 → f a = g a) (w : Int32) : tog (fb f) cs w = tog (fb g) cs w := by
  unfold tog
  rw [smc_congr 0 fun c hm => hld_congr fun t ht c5 c6 c7 => ?_]
  obtain ⟨h1, h2⟩ := hc c hm t ht
  rcases h1 with rfl | rfl | rfl | h1
  · exact absurd rfl c5
  · exact absurd rfl c6
  · exact absurd rfl c7
  · obtain ⟨a, ha, e⟩ := h2 h1
    unfold fb
    rw [e, tn_O (by omega), h a ha]
/-- looks -/
theorem s_135 (d : Nat) {ν : MM} {cs : List Cl} (t st h k : Int32) (hm : MCo ν 47 cs) (hc : ∀ c ∈ cs, okTs 4 c.2.2) (hb : b01 (gI ν 50 0) = true) : ∃ ν', ev (d + 2) 135 0 [.ref 46, .int t, .int st, .int h, .int k] [] (fx ν) = some (none, fx ν') ∧ Fr Pl Q0 ν ν' ∧ gI ν' 46 12 = tog (fb (by4 t st (h - h / 12 * 12) k)) cs 0 ∧ gI ν' 46 13 = tog (fb (by4 t st (h - h / 12 * 12) k)) cs 1 ∧ gI ν' 46 14 = tog (fb (by4 t st (h - h / 12 * 12) k)) cs 2 ∧ b01 (gI ν' 50 0) = true := by
  have f0 : Fr Pl Q0 ν (sI (sI (sI (sI ν 49 0 t) 49 1 st) 49 2 (h - h / 12 * 12)) 49 3 k) := (Fr.wI _ rfl).tr ((Fr.wI _ rfl).tr ((Fr.wI _ rfl).tr (Fr.wI _ rfl)))
  have z47 : gI (sI (sI (sI (sI ν 49 0 t) 49 1 st) 49 2 (h - h / 12 * 12)) 49 3 k) 47 = gI ν 47 := f0.rowl rfl rfl rfl
  obtain ⟨r, ν1, e1, f1, g1, g2, g3, g4⟩ := s_134c d (MCo.of z47 hm) (by exact hb)
  have hy : ∀ a, a < 4 → gI (sI (sI (sI (sI ν 49 0 t) 49 1 st) 49 2 (h - h / 12 * 12)) 49 3 k) 49 a = by4 t st (h - h / 12 * 12) k a := by
    intro a ha
    match a, ha with
    | 0, _ => rfl
    | 1, _ => rfl
    | 2, _ => rfl
    | 3, _ => rfl
  rw [fb_congr hc hy] at g1 g2 g3
  refine ⟨ν1, ?_, f0.tr (f1.mono Pl_Pg fun _ h => h), g1, g2, g3, g4⟩
  rw [e_135_0, e1, bnd_1]
  exact e_135_1 ..
