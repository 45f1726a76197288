/-! THE SMALL MACHINE'S RUNS, with fuel n and depth d; a method's contract out of a run -/
def awd (ar : List Value) : Nat := (ar.map fun v => if v.category = 2 then 2 else 1).sum
def eE : Nat → Nat → Nat → Nat → List Value → List Value → MM → Rs
  | 0, _, _, _, _, _, _ => none
  | n + 1, d, M, b, vs, st, μ => xb (fun M' ar μ => match d with
      | 0 => none
      | d' + 1 => gd (Nat.beq (bpc (mt M') 0) 0 && Nat.ble (awd ar) (mt M').2.2.1) (pik (blk (mt M') 0).1 (lv_args 0 ar) [] fun vs => eE n d' M' 0 vs [] μ)) (fun b ls st μ => pik (blk (mt M) b).1 ls [] fun vs => eE n d M b vs st μ) (blk (mt M) b).2 ((blk (mt M) b).1.zip vs) st μ
theorem pik_inv {k : List Value → Rs} {x : Option Value × MM} : ∀ (is : List Nat) (ls : LV) (acc : List Value), pik is ls acc k = some x → ∃ vs, k (acc.reverse ++ vs) = some x ∧ ∀ q ∈ is.zip vs, q ∈ ls
  | [], ls, acc, h => ⟨[], by rw [List.append_nil]; exact h, fun q hq => by simp at hq⟩
  | i :: is, ls, acc, h => by
    unfold pik at h
    obtain ⟨j, v, h1, h2⟩ := lgt_inv h
    obtain ⟨vs, h3, h4⟩ := pik_inv is ls (v :: acc) h2
    refine ⟨v :: vs, by simpa using h3, fun q hq => ?_⟩
    rw [List.zip_cons_cons] at hq
    rcases List.mem_cons.mp hq with rfl | hq
    · exact List.mem_of_getElem? h1
    · exact h4 q hq
theorem awd_len (vs : List Value) : (lg_sl vs).length = awd vs := by
  induction vs with
  | nil => rfl
  | cons v vs ih =>
    unfold lg_sl awd at *
    rw [List.flatMap_cons, List.length_append, List.map_cons, List.sum_cons, ih]
    by_cases h : v.category = 2
    · rw [if_pos h, if_pos h]; rfl
    · rw [if_neg h, if_neg h]; rfl
theorem awd_map {f : Nat → Nat} {z : Value} (hz : z = .null ∨ ∃ a, z = .ref a) (ar : List Value) : awd (ar.map (cv f z)) = awd ar := by
  unfold awd
  rw [List.map_map]
  congr 1
  apply List.map_congr_left
  intro v _
  simp only [Function.comp, cv_cat hz]
theorem args_map {f : Nat → Nat} {z : Value} (hz : z = .null ∨ ∃ a, z = .ref a) : ∀ (ar : List Value) (i : Nat), lv_args i (ar.map (cv f z)) = cl2 f z (lv_args i ar)
  | [], _ => rfl
  | v :: ar, i => by
    rw [List.map_cons]
    unfold lv_args
    rw [cv_cat hz, args_map hz ar]
    rfl
theorem okL_bpc {t : MT} (h : okBk t = true) (b : Nat) (hne : (blk t b).2 ≠ []) : okL t (bpc t b) (blk t b).2 = true := by
  have hb : blk t b ∈ t.2.2.2.2 := by
    unfold blk at hne ⊢
    rw [List.getD_eq_getElem?_getD] at hne ⊢
    cases hq : t.2.2.2.2[b]? with
    | none => rw [hq] at hne; exact absurd rfl hne
    | some q => exact List.mem_of_getElem? hq
  have h1 := List.all_eq_true.mp h _ hb
  unfold bpc
  cases hq : (blk t b).2 with
  | nil => exact absurd hq hne
  | cons e es =>
    unfold okB at h1
    rw [hq] at h1
    exact h1
section EV
variable {N0 : Nat} {G : GG} {ro : Nat → Nat} {z : Value} {xs : Nat → Int32} {L : Nat}
theorem Wk.sub {p : Program} {l : Launch} {e : Env} {R : Room} {s : State} {m : MethodId} {args : Array Value} {below : List Frame} {meth : Method} {c : Code} {Q : State → Prop} {nL z0 y0 pc : Nat} {μ9 μ : MM} {ls ls' : LV} {st : List Value} (h : Wk p l e R s m args below meth c Q N0 G ro z xs L nL z0 y0 μ9 pc ls' st μ) (hs : ∀ q ∈ ls', q ∈ ls) : Wk p l e R s m args below meth c Q N0 G ro z xs L nL z0 y0 μ9 pc ls st μ := by
  refine ⟨h.1, fun H locs Ls hR hS hL g1 g2 => h.2 H locs Ls hR hS ⟨hL.1, hL.2.1, fun q hq => ?_⟩ g1 g2⟩
  unfold cl2 at hq
  obtain ⟨w, hw, rfl⟩ := List.mem_map.mp hq
  exact hL.2.2 _ (by unfold cl2; exact List.mem_map.mpr ⟨w, hs w hw, rfl⟩)
/-- what a run says, from a block on, in any method's context -/
def SimE (N0 : Nat) (G : GG) (ro : Nat → Nat) (z : Value) (xs : Nat → Int32) (L : Nat) (n : Nat) : Prop := ∀ (p : Program) (l : Launch) (e : Env) (R : Room) (s : State) (m : MethodId) (args : Array Value) (below : List Frame) (meth : Method) (c : Code) (Q : State → Prop) (z0 y0 d M b : Nat) (r : Option Value) (μ9 : MM) (vs st : List Value) (μ : MM), okBk (mt M) = true →
  (∀ (pc : Nat) (i : Instr) (H : Heap) (locs : List Loc) (Ls : Array Slot), decode (mt M).2.1 pc = .ok (i, 1) → retOK (mt M) i r → Rep N0 G ro xs L μ9 H → va_S (fun q => N0 ≤ q) s.heap H locs → W p l e R s m args below meth c H locs (msz μ9 - z0) (msl μ9 - y0) Q (F0 m pc Ls ((r.map (cv (cad N0 ro) z)).toList))) →
  Cx p R s m args meth c N0 G ro z xs L (mt M) d z0 y0 μ9 → eE n d M b vs st μ = some (r, μ9) → Wk p l e R s m args below meth c Q N0 G ro z xs L (mt M).2.2.1 z0 y0 μ9 (bpc (mt M) b) ((blk (mt M) b).1.zip vs) st μ
/-- a method's contract out of its runs -/
theorem con_of {n d M : Nat} (hS : SimE N0 G ro z xs L n) (hz : z = .null ∨ ∃ a, z = .ref a) {pw : Nat × Nat} (hok : okMT (mt M) pw = true) {ar vs : List Value} {μ μ' : MM} {r : Option Value} (h0 : bpc (mt M) 0 = 0) (hw : awd ar ≤ (mt M).2.2.1) (hin : ∀ q ∈ (blk (mt M) 0).1.zip vs, q ∈ lv_args 0 ar) (h : eE n d M 0 vs [] μ = some (r, μ')) (hm : mle μ μ') : Con N0 G ro z xs L (d + 1) M ar μ r μ' := by
  obtain ⟨k1, k2, k3, k4, k5, k6⟩ := okMT_inv hok
  refine ⟨hm, fun l => ?_⟩
  refine Met.ofW (cc := (mt M).2.1) (maxL := (mt M).2.2.1) (ret := (mt M).2.2.2.1) k1 rfl ?_
  intro p e s m args below meth c s₁ B hml hv
  obtain ⟨rfl, hR, wf⟩ := hv
  have hx := B.exec
  have hb := B.bytes
  have hr := B.returns
  have hts0 := atoms_spec (ws := wsM M) B.pre
  have hts : ∀ w ∈ gTbl, w.before (ar.map (cv (cad N0 ro) z)).toArray s = true := fun w h => hts0 w (List.mem_cons_of_mem _ h)
  have hown : s.vm.findClass (mt M).1.cls = some m.cls := findClass_of_methodNamed B.named
  have hlocks := B.notSynchronized
  have hnm : meth.name = (mt M).1.name := (name_of_methodNamed B.named B.method).1
  have cx : Cx p (rmM (d + 1) μ μ') s m (ar.map (cv (cad N0 ro) z)).toArray meth c N0 G ro z xs L (mt M) d (msz μ) (msl μ) μ' := ⟨hx, hb, hml, hown, hts, fun q => hnm.trans q, wf, Nat.le_refl _, Nat.le_refl _, Nat.le_refl _, Nat.le_refl _⟩
  have hk := (hS p l e (rmM (d + 1) μ μ') s m (ar.map (cv (cad N0 ro) z)).toArray below meth c (MQ below (Qcn N0 G ro z xs L r μ') (ar.map (cv (cad N0 ro) z)).toArray s (msz μ' - msz μ) (msl μ' - msl μ) (fun q => N0 ≤ q)) (msz μ) (msl μ) d M 0 r μ' vs [] μ k4 (fun pc i H locs Ls hd hret hR9 hS9 => ?_) cx h).sub hin
  · rw [lg_entry_eq]
    have hl := lv_entry (ar.map (cv (cad N0 ro) z)) (n := (mt M).2.2.1) (by rw [awd_len, awd_map hz]; exact hw)
    rw [args_map hz] at hl
    have hk2 := hk.2 s.heap [] _ hR va_S.rf hl (Nat.le_refl _) (Nat.le_refl _)
    rw [Nat.sub_self, Nat.sub_self, h0] at hk2
    exact hk2
  · have post : ∀ t : State, t.heap = H → s.WarmedH t.vm → Qcn N0 G ro z xs L r μ' (ar.map (cv (cad N0 ro) z)).toArray s (.returned (r.map (cv (cad N0 ro) z))) t := fun t ht _ => ⟨rfl, by rw [ht]; exact hR9, by rw [ht]; exact hS9.1, fun q q1 q2 => by rw [ht]; exact hS9.2.1 q q1 q2⟩
    cases i with
    | ireturn =>
      obtain ⟨x, ty, rfl, e1, e2⟩ := hret
      exact W.zret hx hb (hr.trans e1) e2 post hS9.2.2 hd
    | lreturn =>
      obtain ⟨x, rfl, e1⟩ := hret
      exact W.lret hx hb (hr.trans e1) post hS9.2.2 hd
    | areturn =>
      obtain ⟨e1, e2⟩ := hret
      have hrt : ∃ rt, (mt M).2.2.2.1 = some rt ∧ ((∃ n, rt = .object n) ∨ ∃ t, rt = .array t) := by
        generalize (mt M).2.2.2.1 = w at e2
        cases w with
        | none => cases e2
        | some w =>
          cases w <;> first | (cases e2; done) | exact ⟨_, rfl, Or.inl ⟨_, rfl⟩⟩ | exact ⟨_, rfl, Or.inr ⟨_, rfl⟩⟩
      obtain ⟨rt, e3, e4⟩ := hrt
      rcases e1 with rfl | ⟨a, rfl⟩
      · exact W.aret hx hb (hr.trans e3) e4 (Or.inl rfl) post hS9.2.2 hd
      · exact W.aret hx hb (hr.trans e3) e4 (Or.inr ⟨_, rfl⟩) post hS9.2.2 hd
    | return_ =>
      obtain ⟨rfl, e1⟩ := hret
      exact W.vret hx hb (hr.trans e1) post hS9.2.2 hd
    | _ => exact False.elim hret
end EV
