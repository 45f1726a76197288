/-! RUNS WITHOUT FUEL -/
def rle (a b : Rs) : Prop := ∀ x, a = some x → b = some x
theorem bnd_sub {rk : Nat} {a b : Rs} {k k' : List Value → MM → Rs} {x : Option Value × MM} (h : rle a b) (hk : ∀ rs μ, rle (k rs μ) (k' rs μ)) (hx : bnd rk a k = some x) : bnd rk b k' = some x := by
  cases a with
  | none =>
    exfalso
    unfold bnd at hx
    split at hx <;> cases hx
  | some p =>
    rw [h p rfl]
    obtain ⟨v, μ⟩ := p
    unfold bnd at hx ⊢
    split at hx
    · split at hx
      · next e => cases e; exact hk _ _ _ hx
      · cases hx
    · split at hx
      · next e => cases e; exact hk _ _ _ hx
      · cases hx
    · split at hx
      · next e => cases e; exact hk _ _ _ hx
      · cases hx
    · split at hx
      · next e => cases e; exact hk _ _ _ hx
      · next e => cases e; exact hk _ _ _ hx
      · cases hx
theorem x1_mono {C C' : CT} {J J' : JT} {K K' : KT} {i : Instr} {as : List Nat} {ls : LV} {st : List Value} {μ : MM} (hC : ∀ M ar μ, rle (C M ar μ) (C' M ar μ)) (hJ : ∀ b ls st μ, rle (J b ls st μ) (J' b ls st μ)) (hK : ∀ ls st μ, rle (K ls st μ) (K' ls st μ)) : rle (x1 C J i as ls st μ K) (x1 C' J' i as ls st μ K') := by
  intro x hx
  rcases shp_x1 i as ls st μ with ⟨l1, s1, m1, -, h⟩ | ⟨b, l1, s1, m1, -, h⟩ | ⟨y, -, h⟩ | ⟨rk, M, ar, l1, s1, h⟩
  · have h1 := h C J K
    have h2 := h C' J' K'
    dsimp only at h1 h2
    rw [h2]
    rw [h1] at hx
    exact hK _ _ _ _ hx
  · have h1 := h C J K
    have h2 := h C' J' K'
    dsimp only at h1 h2
    rw [h2]
    rw [h1] at hx
    exact hJ _ _ _ _ _ hx
  · have h1 := h C J K
    have h2 := h C' J' K'
    dsimp only at h1 h2
    rw [h2]
    rw [h1] at hx
    exact hx
  · have h1 := h C J K
    have h2 := h C' J' K'
    dsimp only at h1 h2
    rw [h2]
    rw [h1] at hx
    exact bnd_sub (hC _ _ _) (fun rs μ => hK _ _ _) hx
theorem xb_mono {C C' : CT} {J J' : JT} (hC : ∀ M ar μ, rle (C M ar μ) (C' M ar μ)) (hJ : ∀ b ls st μ, rle (J b ls st μ) (J' b ls st μ)) : ∀ (es : List RI) (ls : LV) (st : List Value) (μ : MM), rle (xb C J es ls st μ) (xb C' J' es ls st μ)
  | [], _, _, _ => fun _ h => by cases h
  | e :: es, ls, st, μ => by
    unfold xb
    exact x1_mono hC hJ (fun ls st μ => xb_mono hC hJ es ls st μ)
/-- out of the limit of chains -/
theorem xb_cont {C : CT} {J : JT} {Cn : Nat → CT} {Jn : Nat → JT} (hCm : ∀ n M ar μ, rle (Cn n M ar μ) (Cn (n + 1) M ar μ)) (hJm : ∀ n b ls st μ, rle (Jn n b ls st μ) (Jn (n + 1) b ls st μ)) (hC : ∀ M ar μ x, C M ar μ = some x → ∃ n, Cn n M ar μ = some x) (hJ : ∀ b ls st μ x, J b ls st μ = some x → ∃ n, Jn n b ls st μ = some x) : ∀ (es : List RI) (ls : LV) (st : List Value) (μ : MM) (x : Option Value × MM), xb C J es ls st μ = some x → ∃ n, xb (Cn n) (Jn n) es ls st μ = some x
  | [], _, _, _, _, h => by cases h
  | e :: es, ls, st, μ, x, hx => by
    have hCm2 : ∀ n k M ar μ, rle (Cn n M ar μ) (Cn (n + k) M ar μ) := by
      intro n k
      induction k with
      | zero => exact fun _ _ _ _ h => h
      | succ k ih => exact fun M ar μ y h => hCm _ _ _ _ _ (ih M ar μ y h)
    have hJm2 : ∀ n k b ls st μ, rle (Jn n b ls st μ) (Jn (n + k) b ls st μ) := by
      intro n k
      induction k with
      | zero => exact fun _ _ _ _ _ h => h
      | succ k ih => exact fun b ls st μ y h => hJm _ _ _ _ _ _ (ih b ls st μ y h)
    unfold xb at hx ⊢
    rcases shp_x1 e.2.1 e.2.2.2.1 ls st μ with ⟨l1, s1, m1, -, h⟩ | ⟨b, l1, s1, m1, -, h⟩ | ⟨y, -, h⟩ | ⟨rk, M, ar, l1, s1, h⟩
    · have h1 := h C J (fun ls st μ => xb C J es ls st μ)
      dsimp only at h1
      rw [h1] at hx
      obtain ⟨n, hn⟩ := xb_cont hCm hJm hC hJ es _ _ _ _ hx
      exact ⟨n, (h (Cn n) (Jn n) (fun ls st μ => xb (Cn n) (Jn n) es ls st μ)).trans hn⟩
    · have h1 := h C J (fun ls st μ => xb C J es ls st μ)
      dsimp only at h1
      rw [h1] at hx
      obtain ⟨n, hn⟩ := hJ _ _ _ _ _ hx
      exact ⟨n, (h (Cn n) (Jn n) (fun ls st μ => xb (Cn n) (Jn n) es ls st μ)).trans hn⟩
    · have h1 := h C J (fun ls st μ => xb C J es ls st μ)
      dsimp only at h1
      rw [h1] at hx
      exact ⟨0, (h (Cn 0) (Jn 0) (fun ls st μ => xb (Cn 0) (Jn 0) es ls st μ)).trans hx⟩
    · have h1 := h C J (fun ls st μ => xb C J es ls st μ)
      dsimp only at h1
      rw [h1] at hx
      obtain ⟨r1, μ1, e1, e2⟩ := bnd_inv hx
      obtain ⟨n1, hn1⟩ := hC _ _ _ _ e1
      obtain ⟨n2, hn2⟩ := xb_cont hCm hJm hC hJ es _ _ _ _ e2
      refine ⟨n1 + n2, (h (Cn (n1 + n2)) (Jn (n1 + n2)) (fun ls st μ => xb (Cn (n1 + n2)) (Jn (n1 + n2)) es ls st μ)).trans ?_⟩
      have g1 := hCm2 n1 n2 _ _ _ _ hn1
      have g2 : xb (Cn (n1 + n2)) (Jn (n1 + n2)) es l1 (r1.toList ++ s1) μ1 = some x := by
        rw [Nat.add_comm]
        exact xb_mono (hCm2 n2 n1) (hJm2 n2 n1) es _ _ _ _ hn2
      rw [g1]
      rw [e1] at hx
      unfold bnd at hx ⊢
      split at hx
      · split at hx
        · next e => cases e; exact g2
        · cases hx
      · split at hx
        · next e => cases e; exact g2
        · cases hx
      · split at hx
        · next e => cases e; exact g2
        · cases hx
      · split at hx
        · next e => cases e; exact g2
        · next e => cases e; exact g2
        · cases hx
theorem pik_sh (is : List Nat) : ∀ (ls : LV) (acc : List Value), (∃ vs, ∀ k : List Value → Rs, pik is ls acc k = k vs) ∨ ∀ k : List Value → Rs, pik is ls acc k = none := by
  have lg : ∀ (ls : LV) (i : Nat), (∃ v, ∀ k : Value → Rs, lgt ls i k = k v) ∨ ∀ k : Value → Rs, lgt ls i k = none := by
    intro ls i
    induction ls with
    | nil => exact Or.inr fun k => rfl
    | cons q l ih =>
      unfold lgt
      cases Nat.beq q.1 i with
      | true => exact Or.inl ⟨q.2, fun k => rfl⟩
      | false => exact ih
  induction is with
  | nil => exact fun ls acc => Or.inl ⟨acc.reverse, fun k => rfl⟩
  | cons i is ih =>
    intro ls acc
    unfold pik
    rcases lg ls i with ⟨v, h⟩ | h
    · rcases ih ls (v :: acc) with ⟨vs, h2⟩ | h2
      · exact Or.inl ⟨vs, fun k => (h _).trans (h2 k)⟩
      · exact Or.inr fun k => (h _).trans (h2 k)
    · exact Or.inr fun k => h _
def cCn (n d : Nat) : CT := fun M' ar μ => match d with
  | 0 => none
  | d' + 1 => gd (Nat.beq (bpc (mt M') 0) 0 && Nat.ble (awd ar) (mt M').2.2.1) (pik (blk (mt M') 0).1 (lv_args 0 ar) [] fun vs => eE n d' M' 0 vs [] μ)
def jJn (n d M : Nat) : JT := fun b ls st μ => pik (blk (mt M) b).1 ls [] fun vs => eE n d M b vs st μ
theorem eE_succ (n d M b : Nat) (vs st : List Value) (μ : MM) : eE (n + 1) d M b vs st μ = xb (cCn n d) (jJn n d M) (blk (mt M) b).2 ((blk (mt M) b).1.zip vs) st μ := rfl
theorem pik_le {is : List Nat} {ls : LV} {k k' : List Value → Rs} (h : ∀ vs, rle (k vs) (k' vs)) : rle (pik is ls [] k) (pik is ls [] k') := by
  intro x hx
  rcases pik_sh is ls [] with ⟨vs, e⟩ | e
  · rw [e] at hx ⊢
    exact h vs x hx
  · rw [e] at hx
    cases hx
theorem gd_le {b : Bool} {r r' : Rs} (h : rle r r') : rle (gd b r) (gd b r') := by
  cases b with
  | true => exact h
  | false => exact fun _ h => by cases h
theorem cCn_le {n n' d : Nat} (h : ∀ d M b vs st μ, rle (eE n d M b vs st μ) (eE n' d M b vs st μ)) : ∀ M ar μ, rle (cCn n d M ar μ) (cCn n' d M ar μ) := by
  intro M ar μ
  cases d with
  | zero => exact fun _ h => by cases h
  | succ d => exact gd_le (pik_le fun vs => h _ _ _ _ _ _)
theorem eE_mono : ∀ (n d M b : Nat) (vs st : List Value) (μ : MM), rle (eE n d M b vs st μ) (eE (n + 1) d M b vs st μ)
  | 0, _, _, _, _, _, _ => fun _ h => by cases h
  | n + 1, d, M, b, vs, st, μ => by
    rw [eE_succ, eE_succ]
    exact xb_mono (cCn_le (eE_mono n)) (fun b ls st μ => pik_le fun vs => eE_mono n d M b vs st μ) _ _ _ _
theorem eE_le (n k d M b : Nat) (vs st : List Value) (μ : MM) : rle (eE n d M b vs st μ) (eE (n + k) d M b vs st μ) := by
  induction k with
  | zero => exact fun _ h => h
  | succ k ih => exact fun x h => eE_mono _ _ _ _ _ _ _ x (ih x h)
/-- what a block comes to -/
noncomputable def ev (d M b : Nat) (vs st : List Value) (μ : MM) : Rs := @dite Rs (∃ n x, eE n d M b vs st μ = some x) (Classical.propDecidable _) (fun h => some (Classical.choose (Classical.choose_spec h))) (fun _ => none)
theorem ev_some {d M b : Nat} {vs st : List Value} {μ : MM} {x : Option Value × MM} : ev d M b vs st μ = some x ↔ ∃ n, eE n d M b vs st μ = some x := by
  constructor
  · intro h
    unfold ev at h
    split at h
    · next h1 =>
      cases h
      exact ⟨_, Classical.choose_spec (Classical.choose_spec h1)⟩
    · cases h
  · rintro ⟨n, hn⟩
    have h1 : ∃ n x, eE n d M b vs st μ = some x := ⟨n, x, hn⟩
    unfold ev
    rw [dif_pos h1]
    have h2 := Classical.choose_spec (Classical.choose_spec h1)
    have h3 := eE_le n (Classical.choose h1) d M b vs st μ _ hn
    have h4 := eE_le (Classical.choose h1) n d M b vs st μ _ h2
    rw [Nat.add_comm] at h4
    exact h4.symm.trans h3
/-- a call at depth d -/
noncomputable def cC (d : Nat) : CT := fun M' ar μ => match d with
  | 0 => none
  | d' + 1 => gd (Nat.beq (bpc (mt M') 0) 0 && Nat.ble (awd ar) (mt M').2.2.1) (pik (blk (mt M') 0).1 (lv_args 0 ar) [] fun vs => ev d' M' 0 vs [] μ)
noncomputable def jJ (d M : Nat) : JT := fun b ls st μ => pik (blk (mt M) b).1 ls [] fun vs => ev d M b vs st μ
theorem pik_lim {is : List Nat} {ls : LV} {k : List Value → Rs} {kn : Nat → List Value → Rs} {x : Option Value × MM} (h : ∀ vs, k vs = some x → ∃ n, kn n vs = some x) (hx : pik is ls [] k = some x) : ∃ n, pik is ls [] (kn n) = some x := by
  rcases pik_sh is ls [] with ⟨vs, e⟩ | e
  · rw [e] at hx
    obtain ⟨n, hn⟩ := h vs hx
    exact ⟨n, by rw [e]; exact hn⟩
  · rw [e] at hx
    cases hx
theorem ev_eq (d M b : Nat) (vs st : List Value) (μ : MM) : ev d M b vs st μ = xb (cC d) (jJ d M) (blk (mt M) b).2 ((blk (mt M) b).1.zip vs) st μ := by
  have h1 : rle (ev d M b vs st μ) (xb (cC d) (jJ d M) (blk (mt M) b).2 ((blk (mt M) b).1.zip vs) st μ) := by
    intro x hx
    obtain ⟨n, hn⟩ := ev_some.mp hx
    cases n with
    | zero => cases hn
    | succ n =>
      rw [eE_succ] at hn
      refine xb_mono (fun M ar μ => ?_) (fun b ls st μ => pik_le fun vs y hy => ev_some.mpr ⟨n, hy⟩) _ _ _ _ _ hn
      cases d with
      | zero => exact fun _ h => by cases h
      | succ d => exact gd_le (pik_le fun vs y hy => ev_some.mpr ⟨n, hy⟩)
  have h2 : rle (xb (cC d) (jJ d M) (blk (mt M) b).2 ((blk (mt M) b).1.zip vs) st μ) (ev d M b vs st μ) := by
    intro x hx
    obtain ⟨n, hn⟩ := xb_cont (Cn := fun n => cCn n d) (Jn := fun n => jJn n d M) (fun n => cCn_le (eE_mono n)) (fun n b ls st μ => pik_le fun vs => eE_mono n d M b vs st μ) (fun M ar μ y hy => by
      cases d with
      | zero => cases hy
      | succ d =>
        obtain ⟨g, hy⟩ := gd_inv hy
        obtain ⟨n, hn⟩ := pik_lim (kn := fun n vs => eE n d M 0 vs [] μ) (fun vs q => ev_some.mp q) hy
        refine ⟨n, ?_⟩
        show gd _ _ = _
        rw [g]
        exact hn) (fun b ls st μ y hy => pik_lim (kn := fun n vs => eE n d M b vs st μ) (fun vs q => ev_some.mp q) hy) _ _ _ _ _ hx
    exact ev_some.mpr ⟨n + 1, hn⟩
  cases hx : ev d M b vs st μ with
  | some x => exact (h1 x hx).symm
  | none =>
    cases hy : xb (cC d) (jJ d M) (blk (mt M) b).2 ((blk (mt M) b).1.zip vs) st μ with
    | none => rfl
    | some y => rw [h2 y hy] at hx; cases hx
theorem eE_mle : ∀ (n d M b : Nat) (vs st : List Value) (μ : MM) (x : Option Value × MM), eE n d M b vs st μ = some x → mle μ x.2
  | 0, _, _, _, _, _, _, _, h => by cases h
  | n + 1, d, M, b, vs, st, μ, x, h => by
    rw [eE_succ] at h
    have hC : ∀ M ar μ y, cCn n d M ar μ = some y → mle μ y.2 := by
      intro M ar μ y hy
      cases d with
      | zero => cases hy
      | succ d =>
        obtain ⟨g, hy⟩ := gd_inv hy
        obtain ⟨vs, hy, -⟩ := pik_inv _ _ _ hy
        exact eE_mle n _ _ _ _ _ _ _ hy
    have hJ : ∀ b ls st μ y, jJn n d M b ls st μ = some y → mle μ y.2 := by
      intro b ls st μ y hy
      obtain ⟨vs, hy, -⟩ := pik_inv _ _ _ hy
      exact eE_mle n _ _ _ _ _ _ _ hy
    have key : ∀ (es : List RI) (ls : LV) (st : List Value) (μ : MM) (y : Option Value × MM), xb (cCn n d) (jJn n d M) es ls st μ = some y → mle μ y.2 := by
      intro es
      induction es with
      | nil => intro ls st μ y hy; cases hy
      | cons e es ih =>
        intro ls st μ y hy
        unfold xb at hy
        rcases shp_x1 e.2.1 e.2.2.2.1 ls st μ with ⟨l1, s1, m1, hm, hh⟩ | ⟨b, l1, s1, m1, hm, hh⟩ | ⟨w, hm, hh⟩ | ⟨rk, M', ar, l1, s1, hh⟩
        · have h1 := hh (cCn n d) (jJn n d M) (fun ls st μ => xb (cCn n d) (jJn n d M) es ls st μ)
          dsimp only at h1
          rw [h1] at hy
          exact mle_tr hm (ih _ _ _ _ hy)
        · have h1 := hh (cCn n d) (jJn n d M) (fun ls st μ => xb (cCn n d) (jJn n d M) es ls st μ)
          dsimp only at h1
          rw [h1] at hy
          exact mle_tr hm (hJ _ _ _ _ _ hy)
        · have h1 := hh (cCn n d) (jJn n d M) (fun ls st μ => xb (cCn n d) (jJn n d M) es ls st μ)
          dsimp only at h1
          rw [h1] at hy
          exact hm _ hy
        · have h1 := hh (cCn n d) (jJn n d M) (fun ls st μ => xb (cCn n d) (jJn n d M) es ls st μ)
          dsimp only at h1
          rw [h1] at hy
          obtain ⟨r1, μ1, e1, e2⟩ := bnd_inv hy
          exact mle_tr (hC _ _ _ _ e1) (ih _ _ _ _ e2)
    exact key _ _ _ _ _ h
/-- THE MACHINE FOLLOWS every run -/
theorem simE {N0 : Nat} {G : GG} {ro : Nat → Nat} {z : Value} {xs : Nat → Int32} {L : Nat} (hz : z = .null ∨ ∃ a, z = .ref a) (hok : ∀ M, M + 1 < allM.length → ∃ pw, okMT (mt M) pw = true) (hobj : Cond.instanceMethod objectInit ∈ gTbl ∧ Cond.code objectInit ⟨#[0xb1]⟩ 1 none ∈ gTbl) : ∀ n, SimE N0 G ro z xs L n
  | 0 => fun p l e R s m args below meth c Q z0 y0 d M b r μ9 vs st μ _ _ _ h => by cases h
  | n + 1 => fun p l e R s m args below meth c Q z0 y0 d M b r μ9 vs st μ ok hret cx h => by
    have ih := simE (N0 := N0) (G := G) (ro := ro) (z := z) (xs := xs) (L := L) hz hok hobj n
    rw [eE_succ] at h
    have hne : (blk (mt M) b).2 ≠ [] := by
      intro q
      rw [q] at h
      cases h
    refine simL (t := mt M) (d := d) hok hobj (fun M' ar μ r1 μ1 hM hc => ?_) hret cx (fun b' ls st μ hj => ?_) _ _ _ _ _ (okL_bpc ok b hne) h
    · cases d with
      | zero => cases hc
      | succ d =>
        obtain ⟨g, hc⟩ := gd_inv hc
        obtain ⟨g1, g2⟩ := and2 g
        obtain ⟨vs, hc, hin⟩ := pik_inv _ _ _ hc
        obtain ⟨pw, hpw⟩ := hok M' hM
        exact con_of ih hz hpw (Nat.eq_of_beq_eq_true g1) (Nat.le_of_ble_eq_true g2) hin hc (eE_mle _ _ _ _ _ _ _ _ hc)
    · obtain ⟨vs, hj, hin⟩ := pik_inv _ _ _ hj
      exact (ih p l e R s m args below meth c Q z0 y0 d M b' r μ9 vs st μ ok hret cx hj).sub hin
