/-! CALLS -/
def wsM (M : Nat) : List Cond := .code (mt M).1 (mt M).2.1 (mt M).2.2.1 (mt M).2.2.2.1 :: gTbl
def Pcn (N0 : Nat) (G : GG) (ro : Nat → Nat) (z : Value) (xs : Nat → Int32) (L : Nat) (ar : List Value) (μ : MM) : Array Value → State → Prop := fun a U => a = (ar.map (cv (cad N0 ro) z)).toArray ∧ Rep N0 G ro xs L μ U.heap ∧ WF N0 G ro z xs L U
def Qcn (N0 : Nat) (G : GG) (ro : Nat → Nat) (z : Value) (xs : Nat → Int32) (L : Nat) (r : Option Value) (μ' : MM) : Array Value → State → Outcome → State → Prop := fun _ st o t => o = .returned (r.map (cv (cad N0 ro) z)) ∧ Rep N0 G ro xs L μ' t.heap ∧ st.heap.size ≤ t.heap.size ∧ ∀ q, q < st.heap.size → ¬ N0 ≤ q → t.heap[q]? = st.heap[q]?
def rmM (d : Nat) (μ μ' : MM) : Room := { frames := d, cells := msz μ' - msz μ, slots := msl μ' - msl μ, locals := 60 * d }
def Con (N0 : Nat) (G : GG) (ro : Nat → Nat) (z : Value) (xs : Nat → Int32) (L : Nat) (d M : Nat) (ar : List Value) (μ : MM) (r : Option Value) (μ' : MM) : Prop :=
  mle μ μ' ∧ ∀ l : Launch, Met l (mt M).1 (wsM M) (rmM d μ μ') (Pcn N0 G ro z xs L ar μ) (Qcn N0 G ro z xs L r μ') (msz μ' - msz μ) (msl μ' - msl μ) (fun q => N0 ≤ q)
theorem pcn_blind {N0 : Nat} {G : GG} {ro : Nat → Nat} {z : Value} {xs : Nat → Int32} {L : Nat} {ar : List Value} {μ : MM} : FrameBlind (Pcn N0 G ro z xs L ar μ) := fun a U g mk h => ⟨h.1, h.2.1, h.2.2.same rfl rfl⟩
theorem good_g {w : Cond} (h : w ∈ gTbl) : (w.onTables && w.keeps) = true ∨ ∃ ty, w = .arrayClass ty := good_of_word (List.mem_filter.mp h).2
theorem pre_ok {N0 : Nat} {G : GG} {ro : Nat → Nat} {z : Value} {xs : Nat → Int32} {L : Nat} {ar : List Value} {μ : MM} {s : State} {H : Heap} {locs : List Loc} (wf : WF N0 G ro z xs L s) (hR : Rep N0 G ro xs L μ H) (hS : va_S (fun q => N0 ≤ q) s.heap H locs) : ∀ U : State, U.heap = H → s.WarmedH U.vm → Pcn N0 G ro z xs L ar μ (ar.map (cv (cad N0 ro) z)).toArray U := by
  intro U hU hW
  refine ⟨rfl, by rw [hU]; exact hR, wf.moved hW (by rw [hU]; exact Nat.le_trans wf.1.1 hS.1) (fun q h1 h2 => by rw [hU]; exact hS.2.1 q h1 h2)⟩
theorem okMT_inv {t : MT} {pw : Nat × Nat} (h : okMT t pw = true) : plainName t.1.cls = true ∧ (t.1.cls ≠ "java/lang/invoke/MethodHandle" ∧ t.1.cls ≠ "java/lang/invoke/VarHandle") ∧ t.2.2.1 ≤ 40 ∧ okBk t = true ∧ Cond.code t.1 t.2.1 t.2.2.1 t.2.2.2.1 ∈ gTbl ∧ Cond.initialized t.1.cls ∈ gTbl := by
  unfold okMT at h
  obtain ⟨h, h7⟩ := and2 h
  obtain ⟨h, h6⟩ := and2 h
  obtain ⟨h, h5⟩ := and2 h
  obtain ⟨h, h4⟩ := and2 h
  obtain ⟨h, h3⟩ := and2 h
  obtain ⟨h1, h2⟩ := and2 h
  exact ⟨h1, ⟨of_decide_eq_true h2, of_decide_eq_true h3⟩, Nat.le_of_ble_eq_true h4, h5, wis_g h6 rfl, wis_g h7 rfl⟩
theorem vk_ret {rk n M : Nat} (h : okC rk n M = true) : nrR rk (mt M).2.2.2.1 = true ∧ (∀ sig, parseMethodDescriptor (mt M).1.desc = some sig → n = sig.parameters.length) ∧ M + 1 < allM.length := by
  unfold okC at h
  obtain ⟨h, h3⟩ := and2 h
  obtain ⟨h1, h2⟩ := and2 h
  refine ⟨h1, fun sig hs => ?_, of_decide_eq_true h3⟩
  have h2 := of_decide_eq_true h2
  rw [hs] at h2
  exact (Option.some.inj h2).symm
section CALL
variable {p : Program} {l : Launch} {e : Env} {R : Room} {s : State} {m : MethodId} {args : Array Value} {below : List Frame} {meth : Method} {c : Code} {Q : State → Prop}
variable {N0 : Nat} {G : GG} {ro : Nat → Nat} {z : Value} {xs : Nat → Int32} {L : Nat} {t : MT} {z0 y0 d : Nat} {r : Option Value} {μ9 : MM}
variable {C : Nat → List Value → MM → Rs} {J : Nat → LV → List Value → MM → Rs} {K : LV → List Value → MM → Rs} {pc len : Nat} {as ws : List Nat} {ls : LV} {st : List Value} {μ : MM}
/-- behind a call -/
theorem w_back {H : Heap} {locs : List Loc} {cells slots mc ms : Nat} {Ls : Array Slot} {st0 rest : List Value} {a : Array Value} {r1 : Option Value} {μ1 : MM} (hr : va_Run p l e R s m args below meth c H locs cells slots mc ms (F0 m pc Ls st0) rest (Qcn N0 G ro z xs L r1 μ1 a) (fun q => N0 ≤ q)) (hS : va_S (fun q => N0 ≤ q) s.heap H locs)
    (kk : ∀ (H1 : Heap) (locs1 : List Loc), Rep N0 G ro xs L μ1 H1 → va_S (fun q => N0 ≤ q) s.heap H1 locs1 → W p l e R s m args below meth c H1 locs1 (cells + mc) (slots + ms) Q (F0 m (pc + 3) Ls ((r1.map (cv (cad N0 ro) z)).toList ++ rest))) : W p l e R s m args below meth c H locs cells slots Q (F0 m pc Ls st0) := by
  intro T hT X
  obtain ⟨v, st₀, t, T', L1, h0, X', hL1, e1, e2, ⟨hv, hR, hz, hk⟩, st⟩ := hr T hT X
  have hv : v = r1.map (cv (cad N0 ro) z) := by injection hv
  subst hv
  rw [h0] at hz hk
  obtain ⟨t2, a1, b1⟩ := kk T'.heap (locs ++ L1) (by rw [e1]; exact hR) ⟨Nat.le_trans hS.1 (by rw [e1]; exact hz), fun q h1 h2 => by rw [e1, hk q (Nat.lt_of_lt_of_le h1 hS.1) h2]; exact hS.2.1 q h1 h2, fun q hq => by
      rcases List.mem_append.mp hq with h | h
      · exact hS.2.2 q h
      · exact hL1 q h⟩ T' rfl X'
  exact ⟨t2, st t2 a1, b1⟩
theorem pay_M {M : Nat} (hts : ∀ w ∈ gTbl, w.before args s = true) {pw : Nat × Nat} (ok : okMT (mt M) pw = true) : ∀ w ∈ wsM M, ∀ (a' : Array Value) (U : State), s.WarmedH U.vm → w.before a' U = true := by
  refine pay_in hts fun w hw => ?_
  have h : w ∈ gTbl := by
    rcases List.mem_cons.mp hw with rfl | hw
    · exact (okMT_inv ok).2.2.2.2.1
    · exact hw
  exact ⟨h, good_g h⟩
/-- what every call asks -/
theorem c_base {M : Nat} {μ1 : MM} (cx : Cx p R s m args meth c N0 G ro z xs L t d z0 y0 μ9) {pw : Nat × Nat} (ok : okMT (mt M) pw = true) : (rmM d μ μ1).cells = msz μ1 - msz μ ∧ (rmM d μ μ1).slots = msl μ1 - msl μ ∧ (rmM d μ μ1).frames + 1 ≤ R.frames ∧ 8 + ((mt M).2.2.1 + 11) + (rmM d μ μ1).locals ≤ R.locals ∧ (∀ w ∈ wsM M, ∀ (a' : Array Value) (U : State), s.WarmedH U.vm → w.before a' U = true) ∧ Cond.code (mt M).1 (mt M).2.1 (mt M).2.2.1 (mt M).2.2.2.1 ∈ wsM M := by
  obtain ⟨hx, hb, hml, hown, hts, hmn, wf, hfr, hlo, hce, hsl⟩ := cx
  have h40 := (okMT_inv ok).2.2.1
  refine ⟨rfl, rfl, hfr, ?_, pay_M hts ok, List.mem_cons_self⟩
  show 8 + ((mt M).2.2.1 + 11) + 60 * d ≤ R.locals
  omega
theorem map_app {f : Value → Value} (ar st : List Value) : (ar.reverse ++ st).map f = (ar.map f).reverse ++ st.map f := by simp
theorem room_ok {μ1 : MM} (h1 : mle μ μ1) (h2 : mle μ1 μ9) (g1 : z0 ≤ msz μ) (g2 : y0 ≤ msl μ) (hce : msz μ9 - z0 ≤ R.cells) (hsl : msl μ9 - y0 ≤ R.slots) : (msz μ - z0 + (msz μ1 - msz μ) ≤ R.cells ∧ msl μ - y0 + (msl μ1 - msl μ) ≤ R.slots) ∧ msz μ - z0 + (msz μ1 - msz μ) = msz μ1 - z0 ∧ msl μ - y0 + (msl μ1 - msl μ) = msl μ1 - y0 := by
  obtain ⟨a1, a2⟩ := h1
  obtain ⟨b1, b2⟩ := h2
  refine ⟨⟨?_, ?_⟩, ?_, ?_⟩ <;> omega
end CALL
