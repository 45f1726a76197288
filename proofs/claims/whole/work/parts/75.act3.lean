/-! act -/
def PA (q k : Nat) : Bool := Nat.beq q 42 || (Nat.beq q 43 || (Nat.beq q 56 || (Nat.beq q 46 && (Nat.beq k 21 || (Nat.beq k 22 || (Nat.beq k 23 || Nat.beq k 24))))))
theorem PA_ne {q : Nat} (k : Nat) (h : q ≠ 42 ∧ q ≠ 43 ∧ q ≠ 56 ∧ q ≠ 46) : PA q k = false := by
  unfold PA
  rw [beq_n h.1, beq_n h.2.1, beq_n h.2.2.1, beq_n h.2.2.2]
  rfl
theorem PA57 (q k : Nat) (h : 57 ≤ q) : PA q k = false := PA_ne k ⟨by omega, by omega, by omega, by omega⟩
theorem Inv.act {ν μ : MM} (g : Inv ν) (f : Fr PA Q0 ν μ) (hq : QTr μ) : Inv μ := by
  obtain ⟨g1, ⟨b, g2, g3, g4⟩, hb, g5, g6, g7, g8, g9, g10, g11⟩ := g
  have gr := f.gr PA57
  have rr : ∀ q k, gR μ q k = gR ν q k := fun q k => by rw [f.rR]
  have row : ∀ q, q ≠ 42 → q ≠ 43 → q ≠ 56 → q ≠ 46 → gI μ q = gI ν q := fun q h1 h2 h3 h4 => funext fun k => f.rI q k (PA_ne k ⟨h1, h2, h3, h4⟩)
  have ro : ∀ q, q < 42 → gI μ q = gI ν q := fun q h => row q (by omega) (by omega) (by omega) (by omega)
  refine ⟨g1.gr gr g7 (ro 29 (by decide)) (ro 30 (by decide)) (row 47 (by decide) (by decide) (by decide) (by decide)) (rr _ _) (fun k _ => rr _ _) (fun k _ => rr _ _), ⟨b, by rw [ro 28 (by decide)]; exact g2, by rw [f.rI 46 3 rfl]; exact g3, fun e => (g4 e).gr gr g7 (ro 34 (by decide)) (ro 35 (by decide)) (row 48 (by decide) (by decide) (by decide) (by decide)) (rr _ _) (fun k _ => rr _ _) (fun k _ => rr _ _)⟩, by rw [row 50 (by decide) (by decide) (by decide) (by decide)]; exact hb, hq, fun i hi => ?_, f.fsh g7, g8.gr gr g7 (fun k _ => rr _ _) (fun k _ => rr _ _), g9.gr gr g7 (fun k _ => rr _ _) (fun k _ => rr _ _), fun i hi => by rw [ro 30 (by decide)]; exact g10 i hi, fun i hi => by rw [ro 35 (by decide)]; exact g11 i hi⟩
  rw [ro i (by omega), ro (13 + i) (by omega)]
  exact g6 i hi
theorem PT_PA (q k : Nat) (h : PA q k = false) : PT q k = false := by
  unfold PA at h
  unfold PT
  obtain ⟨h1, h2⟩ := Bool.or_eq_false_iff.mp h
  rw [h1, (Bool.or_eq_false_iff.mp h2).1]
  rfl
theorem PN_PA (q k : Nat) (h : PA q k = false) : PN q k = false := by
  unfold PA at h
  unfold PN
  obtain ⟨-, h2⟩ := Bool.or_eq_false_iff.mp h
  obtain ⟨-, h3⟩ := Bool.or_eq_false_iff.mp h2
  obtain ⟨h4, h5⟩ := Bool.or_eq_false_iff.mp h3
  rw [h4]
  cases e : Nat.beq q 46 with
  | false => rfl
  | true =>
    rw [e, Bool.true_and] at h5
    rw [(Bool.or_eq_false_iff.mp h5).1]
    rfl
def actV (a k : Nat) (i v x : Int32) : Int32 := if a = 0 then sndV k i x else if a = 1 then tkV k i v x else teV k i v x
def actL (a k : Nat) : List Int32 := if a = 0 then sndL k else if a = 1 then tkL k else teL k
theorem i_act (d : Nat) {ν : MM} (hI : Inv ν) (v1 v2 v3 : Int32) : CI (fun μ => ev (d + 8) 97 0 [.ref 28, .int v1, .int v2, .int v3] [] (fx μ)) (fun μ => ev (d + 8) 190 0 [.ref 46, .int v1, .int v2, .int v3] [] (fx μ)) ν := by
  have hI' := hI
  obtain ⟨⟨A, T, st, H, n, m, C, S, W, ht, hs, cs, hP⟩, -⟩ := hI'
  have hQ := hP.qx hI.b
  obtain ⟨tn, t1, t2, t3, t4⟩ := hI.2.2.2.1
  have hW := hQ.2.2.2.2.1
  have fc : Fr PT Q0 ν (sI ν 42 1 0) := Fr.wI _ rfl
  have o29 : gI (sI ν 42 1 0) 29 7 = Int32.ofNat W := by rw [gI_sI, if_neg (by omega)]; exact hW.1
  have look := s_51 (d + 7) o29 hW.2.2.1 v1
  have o33 : gR (sI ν 42 1 0) = gR ν := rfl
  rw [o33] at look
  have cl0 : ev (d + 8) 97 0 [.ref 28, .int v1, .int v2, .int v3] [] (fx ν) = asN (rv (if okN W v1 = true then gR ν 33 v1.toNatClampNeg else none)) (some (some (.int 0), fx (sI ν 42 1 0))) fun a => ev (d + 8) 97 3 [.int v2, .int v3, .ref a] [] (fx (sI ν 42 1 0)) := by
    rw [e_97_0, look, bnd_3, app1]
    refine (e_97_1 ..).trans ?_
    rw [e_97_2]
  -- a refusal
  have no : ∀ ν1 : MM, ν1 = sI ν 42 1 0 → (okN W v1 && rg 0 2 v2) = false → ev (d + 8) 97 0 [.ref 28, .int v1, .int v2, .int v3] [] (fx ν) = some (some (.int 0), fx ν1) → CI (fun μ => ev (d + 8) 97 0 [.ref 28, .int v1, .int v2, .int v3] [] (fx μ)) (fun μ => ev (d + 8) 190 0 [.ref 46, .int v1, .int v2, .int v3] [] (fx μ)) ν := by
    intro ν1 h1 hno e1
    subst h1
    have fA : Fr PA Q0 ν (sI (sI ν 42 1 0) 46 21 0) := (Fr.wI _ rfl).tr (Fr.wI _ rfl)
    have o1 : gI (sI (sI ν 42 1 0) 46 21 0) 47 1 = Int32.ofNat W := by rw [gI_sI, if_neg (by omega), gI_sI, if_neg (by omega)]; exact hW.2.1
    refine ⟨0, sI ν 42 1 0, sI (sI ν 42 1 0) 46 21 0, e1, ?_, hI.act fA ⟨0, by omega, ?_, ?_, fun i hi => ?_⟩, Rm.fr fA, rfl, rfl, rfl⟩
    · show ev (d + 8) 190 0 [.ref 46, .int v1, .int v2, .int v3] [] (fx (sI ν 42 1 0)) = _
      rw [e_190_0, s_115 (d + 6) o1 hW.2.2.1, bnd_1, app1]
      refine (e_190_1 ..).trans ?_
      rw [bI_0]
      by_cases c1 : okN W v1 = true
      · rw [c1, Bool.true_and] at hno
        rw [if_pos c1, e_190_2, s_113r, bnd_1, app1]
        refine (e_190_3 ..).trans ?_
        rw [hno, bI_f, if_pos rfl, e_190_4]
      · rw [if_neg c1, e_190_4]
    · rw [gI_sI, if_neg (by omega), gI_sI, if_pos ⟨rfl, rfl⟩]
      rfl
    · rw [gI_sI, if_pos ⟨rfl, rfl⟩]
      rfl
    · rw [gI_sI, if_neg (by omega), gI_sI, if_neg (by omega), gI_sI, if_neg (by omega), gI_sI, if_neg (by omega)]
      exact t4 i hi
  by_cases c1 : okN W v1 = true
  case neg =>
    rw [if_neg c1, asN_n] at cl0
    exact no _ rfl (by rw [Bool.eq_false_iff.mpr c1]; rfl) cl0
  obtain ⟨j, r, k, v, h, co, si, ej, hjW, hj, g1, hR, hm, hr1⟩ := hW.at c1
  rw [if_pos c1, g1, asN_s] at cl0
  by_cases c2 : rg 0 2 v2 = true
  case neg =>
    have n0 : ¬ v2 = 0 := fun e => c2 (by rw [e]; rfl)
    have n1 : ¬ v2 = 1 := fun e => c2 (by rw [e]; rfl)
    have n2 : ¬ v2 = 2 := fun e => c2 (by rw [e]; rfl)
    rw [e_97_3, if_neg n0, if_neg n1, if_neg n2, e_97_10] at cl0
    exact no _ rfl (by rw [Bool.eq_false_iff.mpr c2, Bool.and_false]) cl0
  obtain ⟨a, ha, ea⟩ := rg_n (hi := 2) (by decide) c2
  have hk := hR.2.2.1
  have ha3 : a = 0 ∨ a = 1 ∨ a = 2 := by omega
  have PT57 : ∀ q k, 57 ≤ q → PT q k = false := fun q k hq => by
    unfold PT
    rw [beq_n (show q ≠ 42 by omega), beq_n (show q ≠ 43 by omega)]
    rfl
  have hR0 := hR.gr (fc.gr PT57) hI.f
  have hr10 : gI (sI ν 42 1 0) r 1 = Int32.ofNat j := by rw [gI_sI, if_neg (by have := hR.1; omega)]; exact hr1
  have c0 : CR (gI ν 43) (sI ν 42 1 0) (sI ν 42 1 0) [] := ⟨Fr.rf, by rw [gI_sI, if_pos ⟨rfl, rfl⟩]; rfl, fun i hi => by rw [gI_sI, if_neg (by omega)]; rfl⟩
  have cls : ∃ ν1, ev (d + 8) 97 3 [.int v2, .int v3, .ref r] [] (fx (sI ν 42 1 0)) = some (some (.int (actV a k (Int32.ofNat j) (Int32.ofNat v) v3)), fx ν1) ∧ CR (gI ν 43) (sI ν 42 1 0) ν1 (actL a k) := by
    rcases ha3 with rfl | rfl | rfl
    · obtain ⟨ν1, e, h1⟩ := snd_any (d + 5) c0 (by decide) hR0 hr10 v3 (fun rs μ1 => ev (d + 8) 97 5 [] (rs ++ []) μ1)
      have ea : v2 = 0 := ea
      refine ⟨ν1, ?_, h1⟩
      rw [e_97_3, if_pos ea, e_97_4]
      refine Eq.trans e ?_
      exact e_97_5 ..
    · obtain ⟨ν1, e, h1⟩ := tks_any (d + 3) c0 (by decide) hR0 hr10 v3 (fun rs μ1 => ev (d + 8) 97 7 [] (rs ++ []) μ1)
      have ea : v2 = 1 := ea
      refine ⟨ν1, ?_, h1⟩
      rw [e_97_3, if_neg (by rw [ea]; decide), if_pos ea, e_97_6]
      refine Eq.trans e ?_
      exact e_97_7 ..
    · obtain ⟨ν1, e, h1⟩ := tes_any (d + 1) c0 (by decide) hR0 hr10 v3 (fun rs μ1 => ev (d + 8) 97 9 [] (rs ++ []) μ1)
      have ea : v2 = 2 := ea
      refine ⟨ν1, ?_, h1⟩
      rw [e_97_3, if_neg (by rw [ea]; decide), if_neg (by rw [ea]; decide), if_pos ea, e_97_8]
      refine Eq.trans e ?_
      exact e_97_9 ..
  obtain ⟨ν1, e1, f1, l1, a1⟩ := cls
  have q1 : ∀ q k, q ≠ 42 → q ≠ 43 → gI ν1 q k = gI ν q k := fun q k h1 h2 => by
    rw [f1.rI q k (by unfold PT; rw [beq_n h1, beq_n h2]; rfl), gI_sI, if_neg (by omega)]
  -- the model
  obtain ⟨νm, hνm⟩ : ∃ νm : MM, νm = sI (sI (sI (sI ν1 46 21 0) 46 22 (Int32.ofNat k)) 46 23 (Int32.ofNat j)) 46 24 (Int32.ofNat v) := ⟨_, rfl⟩
  have fm : Fr PA Q0 ν1 νm := by rw [hνm]; exact (Fr.wI _ rfl).tr ((Fr.wI _ rfl).tr ((Fr.wI _ rfl).tr (Fr.wI _ rfl)))
  have mk : MK νm k j v := by
    rw [hνm]
    refine ⟨hk, ?_, ?_, ?_⟩
    · rw [gI_sI, if_neg (by omega), gI_sI, if_neg (by omega), gI_sI, if_pos ⟨rfl, rfl⟩]
    · rw [gI_sI, if_neg (by omega), gI_sI, if_pos ⟨rfl, rfl⟩]
    · rw [gI_sI, if_pos ⟨rfl, rfl⟩]
  have m0 : MR (gI ν 56) νm νm [] := by
    refine ⟨Fr.rf, ?_, fun i hi => ?_⟩
    · rw [hνm, gI_sI, if_neg (by omega), gI_sI, if_neg (by omega), gI_sI, if_neg (by omega), gI_sI, if_pos ⟨rfl, rfl⟩]
      rfl
    · rw [hνm, gI_sI, if_neg (by omega), gI_sI, if_neg (by omega), gI_sI, if_neg (by omega), gI_sI, if_neg (by omega), q1 _ _ (by decide) (by decide)]
      rfl
  obtain ⟨n24, n19, n14, n34, -⟩ := w_num j hj
  obtain ⟨x1, x2, -⟩ := hm
  have md5 : ev (d + 8) 190 0 [.ref 46, .int v1, .int v2, .int v3] [] (fx ν1) = if v2 = 0 then ev (d + 8) 190 6 [.ref 46, .int v3] [] (fx νm) else ev (d + 8) 190 8 [.ref 46, .int v2, .int v3] [] (fx νm) := by
    have o1 : gI (sI ν1 46 21 0) 47 1 = Int32.ofNat W := by rw [gI_sI, if_neg (by omega), q1 _ _ (by decide) (by decide)]; exact hW.2.1
    have k1 : gI (sI ν1 46 21 0) 47 (14 + j) = Int32.ofNat k := by rw [gI_sI, if_neg (by omega), q1 _ _ (by decide) (by decide)]; exact x1
    have k2 : gI (sI (sI (sI ν1 46 21 0) 46 22 (Int32.ofNat k)) 46 23 (Int32.ofNat j)) 47 (19 + j) = Int32.ofNat v := by rw [gI_sI, if_neg (by omega), gI_sI, if_neg (by omega), gI_sI, if_neg (by omega), q1 _ _ (by decide) (by decide)]; exact x2
    rw [e_190_0, s_115 (d + 6) o1 hW.2.2.1, bnd_1, app1]
    refine (e_190_1 ..).trans ?_
    rw [bI_0, if_pos c1, e_190_2, s_113r, bnd_1, app1]
    refine (e_190_3 ..).trans ?_
    rw [bI_0, if_pos c2, e_190_5, ej, n14, n19, inb_O (by omega) (by omega), inb_O (by omega) (by omega), gd_t, gd_t, tn_O (by omega), tn_O (by omega), k1, k2, ← hνm]
  have mdl : ∃ ν2, ev (d + 8) 190 0 [.ref 46, .int v1, .int v2, .int v3] [] (fx ν1) = some (some (.int (actV a k (Int32.ofNat j) (Int32.ofNat v) v3)), fx ν2) ∧ MR (gI ν 56) νm ν2 (actL a k) := by
    rcases ha3 with rfl | rfl | rfl
    · obtain ⟨ν2, e, h2⟩ := s_185 (d + 5) m0 (by decide) mk v3
      have ea : v2 = 0 := ea
      refine ⟨ν2, ?_, h2⟩
      rw [md5, if_pos ea, e_190_6, e, bnd_1, app1]
      refine (e_190_7 ..).trans ?_
      exact e_190_12 ..
    · obtain ⟨ν2, e, h2⟩ := s_187 (d + 3) m0 (by decide) mk v3
      have ea : v2 = 1 := ea
      refine ⟨ν2, ?_, h2⟩
      rw [md5, if_neg (by rw [ea]; decide), e_190_8, if_pos ea, e_190_9, e, bnd_1, app1]
      refine (e_190_10 ..).trans ?_
      exact e_190_12 ..
    · obtain ⟨ν2, e, h2⟩ := s_189 (d + 1) m0 (by decide) mk v3
      have ea : v2 = 2 := ea
      refine ⟨ν2, ?_, h2⟩
      rw [md5, if_neg (by rw [ea]; decide), e_190_8, if_neg (by rw [ea]; decide), e_190_11, e, bnd_1, app1]
      exact e_190_12 ..
  obtain ⟨ν2, e2, f2, l2, a2⟩ := mdl
  have fAll : Fr PA Q0 ν ν2 := (fc.mono PT_PA (fun _ h => h)).tr ((f1.mono PT_PA (fun _ h => h)).tr (fm.tr (f2.mono PN_PA (fun _ h => h))))
  have hlen : (actL a k).length ≤ 100 := by
    obtain ⟨b1, b2, b3, b4, b5⟩ := lens k hk
    unfold actL
    split
    · omega
    · split <;> omega
  have keep42 : ∀ q k, (q = 42 ∨ q = 43) → gI ν2 q k = gI ν1 q k := fun q k h => by
    have h1 : q ≠ 46 ∧ q ≠ 56 := by omega
    rw [f2.rI q k (by unfold PN; rw [beq_n h1.1, beq_n h1.2]; rfl), hνm, gI_sI, if_neg (by omega), gI_sI, if_neg (by omega), gI_sI, if_neg (by omega), gI_sI, if_neg (by omega)]
  refine ⟨_, ν1, ν2, cl0.trans e1, e2, hI.act fAll ⟨(actL a k).length, hlen, by rw [keep42 _ _ (Or.inl rfl)]; exact l1, l2, fun i hi => ?_⟩, Rm.fr fAll, ?_, ?_, ?_⟩
  · rw [keep42 _ _ (Or.inr rfl), a1 i hi, a2 i hi, t4 i hi]
  · exact funext fun k => q1 _ _ (by decide) (by decide)
  · exact funext fun k => fAll.rI 26 k (PA_ne k (by decide))
  · rw [f1.fa]
    rfl
