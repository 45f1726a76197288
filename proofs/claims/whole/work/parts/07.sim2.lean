/-! FIELDS AND ARRAYS -/
theorem cv_rv (f : Nat → Nat) (z : Value) (r : Option Nat) : cv f z (rv r) = va_rf (r.map f) := by
  cases r <;> rfl
theorem kty_lt {k : Nat} {ty : FieldType} (h : kty k = some ty) : 20 ≤ k ∧ k < 26 := by
  unfold kty at h
  split at h <;> first | omega | cases h
theorem vw_all {P : vw_C → Prop} (h0 : P (RX0, TX0, 6)) (h1 : P (RX1, TX1, 6)) (h2 : P (RX2, TX2, 7)) (h3 : P (RX3, TX3, 3)) (h4 : P (RX4, TX4, 6)) (h5 : P (RX5, TX5, 6)) (h6 : P (RX6, TX6, 6)) (h7 : P (RX7, TX7, 6)) (h8 : P (RX8, TX8, 6)) (h9 : P (RX9, TX9, 2)) (h10 : P (RX10, TX10, 15)) (h11 : P (RX11, TX11, 7)) (h12 : P (RX12, TX12, 25)) {ci : Nat} {q : vw_C} (h : vwCl[ci]? = some q) : P q := by
  have hm := List.mem_of_getElem? h
  simp only [List.mem_cons, List.not_mem_nil, or_false] at hm
  rcases hm with rfl | rfl | rfl | rfl | rfl | rfl | rfl | rfl | rfl | rfl | rfl | rfl | rfl <;> assumption
theorem vw_nm {ci : Nat} {q : vw_C} (h : vwCl[ci]? = some q) : ∀ a, a < q.2.2 → ∀ b, b < q.2.2 → a ≠ b → (q.2.1 a).2.1 ≠ (q.2.1 b).2.1 :=
  vw_all (P := fun q => ∀ a, a < q.2.2 → ∀ b, b < q.2.2 → a ≠ b → (q.2.1 a).2.1 ≠ (q.2.1 b).2.1) nmX0 nmX1 nmX2 nmX3 nmX4 nmX5 nmX6 nmX7 nmX8 nmX9 nmX10 nmX11 nmX12 h
theorem vw_ty {ci : Nat} {q : vw_C} (h : vwCl[ci]? = some q) : ∃ ty : Nat → FieldType, ∀ k, k < q.2.2 → parseFieldDescriptor (q.2.1 k).2.2.1 = some (ty k) :=
  vw_all (P := fun q => ∃ ty : Nat → FieldType, ∀ k, k < q.2.2 → parseFieldDescriptor (q.2.1 k).2.2.1 = some (ty k)) ⟨_, tyX0_ok⟩ ⟨_, tyX1_ok⟩ ⟨_, tyX2_ok⟩ ⟨_, tyX3_ok⟩ ⟨_, tyX4_ok⟩ ⟨_, tyX5_ok⟩ ⟨_, tyX6_ok⟩ ⟨_, tyX7_ok⟩ ⟨_, tyX8_ok⟩ ⟨_, tyX9_ok⟩ ⟨_, tyX10_ok⟩ ⟨_, tyX11_ok⟩ ⟨_, tyX12_ok⟩ h
/-- what a field may hold at first -/
theorem vw_df {ci : Nat} {q : vw_C} (h : vwCl[ci]? = some q) : ∀ k, k < q.2.2 → ∃ ty, parseFieldDescriptor (q.2.1 k).2.2.1 = some ty ∧ defaultValue ty = (match fkd (q.2.1 k).2.2.1 with | 2 => .null | _ => .int 0) := by
  have hd : ∀ k, k < q.2.2 → fkd (q.2.1 k).2.2.1 ≠ 9 := vw_all (P := fun q => ∀ k, k < q.2.2 → fkd (q.2.1 k).2.2.1 ≠ 9) (by decide +kernel) (by decide +kernel) (by decide +kernel) (by decide +kernel) (by decide +kernel) (by decide +kernel) (by decide +kernel) (by decide +kernel) (by decide +kernel) (by decide +kernel) (by decide +kernel) (by decide +kernel) (by decide +kernel) h
  intro k hk
  have h9 := hd k hk
  unfold fkd at h9 ⊢
  split at h9
  · next e => exact ⟨_, e, rfl⟩
  · next e => exact ⟨_, e, rfl⟩
  · next e => exact ⟨_, e, rfl⟩
  · next e => exact ⟨_, e, rfl⟩
  · exact absurd rfl h9
def layP : List (List Nat) := [[554, 556, 558, 560, 562, 564], [573, 574, 575, 576, 577, 578], [628, 629, 630, 631, 632, 633, 626], [434, 436, 438], [586, 587, 588, 589, 590, 591], [185, 187, 189, 191, 193, 195], [638, 639, 640, 641, 642, 643], [599, 600, 601, 602, 603, 604], [612, 613, 614, 615, 616, 617], [209, 211], [138, 140, 142, 144, 146, 148, 150, 152, 154, 156, 158, 160, 162, 164, 166], [221, 223, 225, 227, 229, 231, 233], [1002, 1004, 1006, 1008, 1010, 1012, 1014, 1016, 1018, 1020, 1022, 1024, 1026, 1028, 1030, 1032, 1034, 1036, 1038, 1040, 1042, 1044, 1046, 1048, 1050]]
def layOK : Bool := (vwCl.zip layP).all fun w => (u_ws w.1.1 w.1.2.1 w.1.2.2).length == w.2.length && ((u_ws w.1.1 w.1.2.1 w.1.2.2).zip w.2).all fun x => wis x.2 x.1 && goodWord x.1
theorem lay_ok : layOK = true := by decide +kernel
theorem zip_mem {α β : Type} {l : List α} {r : List β} (h : l.length = r.length) {a : α} (ha : a ∈ l) : ∃ b, (a, b) ∈ l.zip r := by
  obtain ⟨i, hi, rfl⟩ := List.getElem_of_mem ha
  exact ⟨r[i]'(by omega), by rw [List.mem_iff_getElem]; exact ⟨i, by simp; omega, by simp⟩⟩
theorem vw_in {ci : Nat} {q : vw_C} (h : vwCl[ci]? = some q) : ∀ w ∈ u_ws q.1 q.2.1 q.2.2, w ∈ gTbl := by
  intro w hw
  obtain ⟨ps, hp⟩ := zip_mem (r := layP) (by rfl) (List.mem_of_getElem? h)
  have h1 := List.all_eq_true.mp lay_ok _ hp
  obtain ⟨h2, h3⟩ := and2 h1
  obtain ⟨b, hb⟩ := zip_mem (r := ps) (by simpa using h2) hw
  have h4 := List.all_eq_true.mp h3 _ hb
  obtain ⟨h5, h6⟩ := and2 h4
  exact wis_g h5 h6
theorem okF_inv {own : String} {idx k tk pf ps c : Nat} {put : Option String} (h : okF own idx k tk pf ps c put = true) : ∃ (q : vw_C) (r : String), vwCl[c]? = some q ∧ k < q.2.2 ∧ Cond.fieldLink own idx r (q.2.1 k).2.1 (q.2.1 k).2.2.1 ∈ gTbl ∧ (r = (q.2.1 k).1 ∨ Cond.sameField r (q.2.1 k).1 (q.2.1 k).2.1 (q.2.1 k).2.2.1 ∈ gTbl) ∧ fkd (q.2.1 k).2.2.1 = tk ∧ (∀ nm, put = some nm → (q.2.1 k).2.2.2 = true → (q.2.1 k).1 = own ∧ nm = "<init>") := by
  unfold okF at h
  split at h
  · next q o i r n d hq hw =>
    obtain ⟨h, h8⟩ := and2 h
    obtain ⟨h, h7⟩ := and2 h
    obtain ⟨h, h6⟩ := and2 h
    obtain ⟨h, h5⟩ := and2 h
    obtain ⟨h, h4⟩ := and2 h
    obtain ⟨h, h3⟩ := and2 h
    obtain ⟨h1, h2⟩ := and2 h
    have h1 := of_decide_eq_true h1
    have h2 := of_decide_eq_true h2
    have h3 := of_decide_eq_true h3
    have h4 := of_decide_eq_true h4
    have h5 := of_decide_eq_true h5
    subst h1; subst h2; subst h4; subst h5
    refine ⟨q, r, hq, h3, List.mem_filter.mpr ⟨List.mem_of_getElem? hw, rfl⟩, ?_, Nat.eq_of_beq_eq_true h7, fun nm hnm hf => ?_⟩
    · rcases Bool.or_eq_true_iff.mp h6 with h6 | h6
      · exact Or.inl (of_decide_eq_true h6)
      · exact Or.inr (wis_g h6 rfl)
    · subst hnm
      simp only [hf] at h8
      obtain ⟨g1, g2⟩ := and2 h8
      exact ⟨of_decide_eq_true g1, of_decide_eq_true g2⟩
  · cases h
theorem fkd_0 {d : String} (h : fkd d = 0) : parseFieldDescriptor d = some .int := by
  unfold fkd at h
  split at h <;> first | assumption | (cases h; done)
theorem fkd_1 {d : String} (h : fkd d = 1) : parseFieldDescriptor d = some .boolean := by
  unfold fkd at h
  split at h <;> first | assumption | (cases h; done)
theorem fkd_2 {d : String} (h : fkd d = 2) : ∃ ty, parseFieldDescriptor d = some ty ∧ (∀ v : Value, (v = .null ∨ ∃ a, v = .ref a) → narrow ty v = v ∧ fits ty v = true) := by
  unfold fkd at h
  split at h
  · cases h
  · cases h
  · next e => exact ⟨_, e, fun v hv => by rcases hv with rfl | ⟨a, rfl⟩ <;> exact ⟨rfl, rfl⟩⟩
  · next e => exact ⟨_, e, fun v hv => by rcases hv with rfl | ⟨a, rfl⟩ <;> exact ⟨rfl, rfl⟩⟩
  · cases h
section SIM2
variable {p : Program} {l : Launch} {e : Env} {R : Room} {s : State} {m : MethodId} {args : Array Value} {below : List Frame} {meth : Method} {c : Code} {Q : State → Prop}
variable {N0 : Nat} {G : GG} {ro : Nat → Nat} {z : Value} {xs : Nat → Int32} {L : Nat} {t : MT} {z0 y0 d : Nat} {r : Option Value} {μ9 : MM}
variable {C : Nat → List Value → MM → Rs} {J : Nat → LV → List Value → MM → Rs} {K : LV → List Value → MM → Rs} {pc len : Nat} {as ws : List Nat} {ls : LV} {st : List Value} {μ : MM}
/-- a field is read -/
theorem w_get {H : Heap} {locs : List Loc} {cells slots idx k tk pf ps a : Nat} {Ls : Array Slot} {rest : List Value} (cx : Cx p R s m args meth c N0 G ro z xs L t d z0 y0 μ9) (hR : Rep N0 G ro xs L μ H) (hc : shp μ a < 13) (hF : okF t.1.cls idx k tk pf ps (shp μ a) none = true) (hd : decode t.2.1 pc = .ok (.getfield idx, 3))
    (kk : W p l e R s m args below meth c H locs cells slots Q (F0 m (pc + 3) Ls (fvk tk (cad N0 ro) μ a k :: rest))) : W p l e R s m args below meth c H locs cells slots Q (F0 m pc Ls (.ref (cad N0 ro a) :: rest)) := by
  obtain ⟨hx, hb, hml, hown, hts, hmn, wf, hfr, hlo, hce, hsl⟩ := cx
  obtain ⟨q, r, hq, hk, hlink, hsame, hfk, -⟩ := okF_inv hF
  obtain ⟨cell, q1, q2, q3, q4⟩ := hR.obj rfl hc hq
  obtain ⟨hS, hfc, kC, hkC, hkind⟩ := wf.2.1 _ _ hq
  obtain ⟨cf, kf, fi, f, hi, hsl⟩ := hS k hk
  have hi2 : s.fieldFound? r (q.2.1 k).2.1 (q.2.1 k).2.2.1 = some (cf, kf, fi, f) := by
    rcases hsame with rfl | h
    · exact hi
    · exact u_same (hts _ h) _ hi
  refine W.getf hx hb hown (hts _ hlink) hi2 (u_facts hfc hkC (u_lays hts (vw_in hq) hk) hi).1 q1 (by rw [q3]; exact fun h => by cases h) (v := fvl (cad N0 ro) μ a k (q.2.1 k).2.2.1) (by rw [hsl]; exact q4 k hk) rfl rfl hd ?_
  unfold fvl
  rw [hfk]
  exact kk
/-- a field is written -/
theorem w_put {H : Heap} {locs : List Loc} {cells slots idx k tk pf ps a : Nat} {Ls : Array Slot} {rest : List Value} {v : Value} {μ' : MM} (cx : Cx p R s m args meth c N0 G ro z xs L t d z0 y0 μ9) (hR : Rep N0 G ro xs L μ H) (hS0 : va_S (fun q => N0 ≤ q) s.heap H locs) (hc : shp μ a < 13) (hF : okF t.1.cls idx k tk pf ps (shp μ a) (some t.1.name) = true) (hd : decode t.2.1 pc = .ok (.putfield idx, 3))
    (hv : ∀ dd, fkd dd = tk → ∃ ty, parseFieldDescriptor dd = some ty ∧ narrow ty v = v ∧ fits ty v = true)
    (hs : ∀ q, shp μ' q = shp μ q) (hn : ∀ q, aln μ' q = aln μ q) (hz : msz μ' = msz μ) (hI : ∀ q k, q ≠ a → gI μ' q k = gI μ q k) (hL : ∀ q k, q ≠ a → gL μ' q k = gL μ q k) (hRR : ∀ q k, q ≠ a → gR μ' q k = gR μ q k)
    (ho : ∀ j dd, j ≠ k → fvl (cad N0 ro) μ' a j dd = fvl (cad N0 ro) μ a j dd) (hvk : ∀ dd, fkd dd = tk → fvl (cad N0 ro) μ' a k dd = v)
    (kk : ∀ (H1 : Heap) (locs1 : List Loc), Rep N0 G ro xs L μ' H1 → va_S (fun q => N0 ≤ q) s.heap H1 locs1 → W p l e R s m args below meth c H1 locs1 cells slots Q (F0 m (pc + 3) Ls rest)) : W p l e R s m args below meth c H locs cells slots Q (F0 m pc Ls (v :: .ref (cad N0 ro a) :: rest)) := by
  obtain ⟨hx, hb, hml, hown, hts, hmn, wf, hfr, hlo, hce, hsl⟩ := cx
  obtain ⟨q, r, hq, hk, hlink, hsame, hfk, hfin⟩ := okF_inv hF
  obtain ⟨ha28, haz, -⟩ := hR.at (q := a) (by omega)
  obtain ⟨cell, q1, q2, q3, q4⟩ := hR.obj rfl hc hq
  obtain ⟨hS, hfc, kC, hkC, hkind⟩ := wf.2.1 _ _ hq
  obtain ⟨cf, kf, fi, f, hi, hsl⟩ := hS k hk
  have hi2 : s.fieldFound? r (q.2.1 k).2.1 (q.2.1 k).2.2.1 = some (cf, kf, fi, f) := by
    rcases hsame with rfl | h
    · exact hi
    · exact u_same (hts _ h) _ hi
  have hst := (u_facts hfc hkC (u_lays hts (vw_in hq) hk) hi).1
  obtain ⟨ty, hty1, hty2, hty3⟩ := hv _ hfk
  obtain ⟨ty0, hty0⟩ := vw_ty hq
  have hap : ∀ x y, x < q.2.2 → y < q.2.2 → x ≠ y → G.2.1 (shp μ a) x ≠ G.2.1 (shp μ a) y := by
    intro x y hx hy hne
    obtain ⟨_, _, _, fa, hia, ea⟩ := hS x hx
    obtain ⟨_, _, _, fb, hib, eb⟩ := hS y hy
    rw [← ea, ← eb]
    refine u_apart (u_lays hts (vw_in hq) hx) (u_lays hts (vw_in hq) hy) hia hib ?_
    rw [(State.fieldFound?_type hia (hty0 x hx)).1, (State.fieldFound?_type hib (hty0 y hy)).1]
    exact vw_nm hq x hx y hy hne
  have fin : ∀ (H' : Heap), H'[cad N0 ro a]? = some (cell.setSlot f.slot v) → H'.size = H.size → (∀ q, q ≠ cad N0 ro a → H'[q]? = H[q]?) → W p l e R s m args below meth c H' (locs ++ [⟨cad N0 ro a, f.slot⟩]) cells slots Q (F0 m (pc + 3) Ls rest) := by
    intro H' e1 e2 e3
    refine kk H' _ (hR.upd ha28 hs hn hz hI hL hRR ?_ e2 e3) (hS0.put e2 e3 (cad_ge ha28))
    unfold cellok
    rw [hs, kty_none hc]
    refine ⟨q, hq, ?_⟩
    rw [hsl] at e1
    refine t_OB.to (V := updV (fun j => fvl (cad N0 ro) μ a j (q.2.1 j).2.2.1) k v) ⟨_, e1, q2, q3, t_set q4 hap hk v⟩ (fun j hj => ?_)
    unfold updV
    by_cases hjk : j = k
    · rw [if_pos hjk, hjk, hvk _ hfk]
    · rw [if_neg hjk, ho j _ hjk]
  have hlay := hts _ (vw_in hq _ (u_in_lay hk))
  unfold u_lay at hlay
  cases hfb : (q.2.1 k).2.2.2 with
  | false =>
    rw [if_neg (by rw [hfb]; decide)] at hlay
    have h6 := u_store hfc hkC hkind hlay hi hty1 hty2 hty3
    exact W.putK hx hb (f := f) ⟨hown, hts _ hlink, ⟨_, _, _, hi2⟩, hst⟩ (by rw [q2]; exact h6) q1 q3 (by rw [hsl]; exact k2_hasslot (q4 k hk)) rfl rfl hd fin
  | true =>
    rw [if_pos hfb] at hlay
    obtain ⟨g1, g2⟩ := hfin _ rfl hfb
    have hcf : m.cls = cf := by
      obtain ⟨_, _, c', _, _, _, -, -, hf', -, -, -, hown2, -⟩ := Cond.laysFinal_spec hlay
      have e1 : c' = cf := by have := hi.symm.trans hf'; simp at this; exact this.1.symm
      rw [g1] at hown2
      rw [← e1]; exact Option.some.inj (hown.symm.trans hown2)
    have h6 := u_fits hfc hkC hkind (Or.inr hlay) hi hty1 hty2 hty3
    exact W.putFinK hx hb hown (hts _ hlink) hi2 hst hcf (hmn g2) (by rw [q2]; exact h6) q1 q3 (by rw [hsl]; exact k2_hasslot (q4 k hk)) rfl rfl hd fin
end SIM2
