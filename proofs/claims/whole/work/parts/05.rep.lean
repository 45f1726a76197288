/-! HOW THE SMALL MACHINE'S MEMORY LIES IN THE HEAP -/
abbrev GG : Type := (Nat → ClassId) × (Nat → Nat → Nat) × (Nat → ClassId)
/-- a place's address: 28 and on are pushed one behind another from N0 on -/
def cad (N0 : Nat) (ro : Nat → Nat) (q : Nat) : Nat := if q < 28 then ro q else N0 + (q - 28)
def cv (f : Nat → Nat) (z : Value) (v : Value) : Value := match v with
  | .ref a => .ref (f a)
  | .retAddr _ => z
  | w => w
def cl2 (f : Nat → Nat) (z : Value) (l : LV) : LV := l.map fun q => (q.1, cv f z q.2)
def fvk (n : Nat) (f : Nat → Nat) (μ : MM) (q k : Nat) : Value := match n with
  | 2 => va_rf ((gR μ q k).map f)
  | _ => .int (gI μ q k)
def fvl (f : Nat → Nat) (μ : MM) (q k : Nat) (d : String) : Value := fvk (fkd d) f μ q k
def elv (f : Nat → Nat) (μ : MM) (q j : Nat) (ty : FieldType) : Value := match ty with
  | .long => .long (gL μ q j)
  | .object _ => va_rf ((gR μ q j).map f)
  | _ => .int (gI μ q j)
def roK (q : Nat) : Nat := if q < 13 then 30 else if q < 26 then 31 else if q < 27 then 32 else 33
def cellok (G : GG) (f : Nat → Nat) (μ : MM) (H : Heap) (q : Nat) : Prop := match kty (shp μ q) with
  | some ty => H[f q]? = some (arrV (G.2.2 (shp μ q)) (aln μ q) (fun j => elv f μ q j ty))
  | none => ∃ r, vwCl[shp μ q]? = some r ∧ t_OB (f q) (G.1 (shp μ q)) r.2.2 (G.2.1 (shp μ q)) H (fun k => fvl f μ q k (r.2.1 k).2.2.1)
def strL : List (List Int32) := strT.map fun w => w.2.2.toList.map fun ch => Int32.ofNat ch.toNat
def strB (i j : Nat) : Int32 := (strL.getD i []).getD j 0
def strN (i : Nat) : Nat := (strL.getD i []).length
/-- what no method writes: the texts and the script -/
def ROm (xs : Nat → Int32) (L : Nat) (μ : MM) : Prop := (∀ i, i < 13 → gR μ i 0 = some (13 + i) ∧ gI μ i 1 = 0 ∧ aln μ (13 + i) = strN i ∧ ∀ j, gI μ (13 + i) j = strB i j) ∧ aln μ 26 = L ∧ (∀ j, gI μ 26 j = xs j)
def shOK (μ : MM) (q : Nat) : Prop := (q < 28 ∧ shp μ q = roK q) ∨ (28 ≤ q ∧ q < msz μ ∧ shp μ q < 26) ∨ (28 ≤ q ∧ msz μ ≤ q ∧ shp μ q = 99)
def Rep (N0 : Nat) (G : GG) (ro : Nat → Nat) (xs : Nat → Int32) (L : Nat) (μ : MM) (H : Heap) : Prop :=
  (28 ≤ msz μ ∧ H.size + 28 = N0 + msz μ) ∧ (∀ q, shOK μ q) ∧ ROm xs L μ ∧ ∀ q, 28 ≤ q → q < msz μ → cellok G (cad N0 ro) μ H q
def isNest : Cond → Bool
  | .methodLinkNest .. => true
  | _ => false
/-- what holds of a state in which a method begins: the tables' facts, the texts, the script -/
def WF (N0 : Nat) (G : GG) (ro : Nat → Nat) (z : Value) (xs : Nat → Int32) (L : Nat) (s : State) : Prop :=
  (N0 ≤ s.heap.size ∧ (z = .null ∨ ∃ a, z = .ref a)) ∧
  (∀ (ci : Nat) (q : vw_C), vwCl[ci]? = some q → u_Kn s q.1 q.2.1 q.2.2 (G.1 ci) (G.2.1 ci)) ∧
  (∀ (k : Nat) (ty : FieldType), kty k = some ty → ArrOfT s (G.2.2 k) ty ∧ va_RA s (G.2.2 k) ty) ∧
  (∀ i, i < 13 → ∃ adK adV : Nat → Nat, adK 0 = ro i ∧ adV 0 = ro (13 + i) ∧ vk_S 1 [strN i] [strL.getD i []] adK adV (fun q => N0 ≤ q) s s.heap) ∧
  (∀ (i : Nat) (w : String × Nat × String), strT[i]? = some w → vk_R w.1 w.2.1 w.2.2 (ro i) s) ∧
  (va_Z "java/lang/String" "COMPACT_STRINGS" "Z" (.int 1) (fun q => N0 ≤ q) s s.heap ∧ va_Z "jdk/internal/util/Preconditions" "SIOOBE_FORMATTER" "Ljava/util/function/BiFunction;" z (fun q => N0 ≤ q) s s.heap) ∧
  (va_X (ro 26) L xs s s.heap ∧ ro 26 < s.heap.size ∧ ¬ N0 ≤ ro 26) ∧
  (∀ w ∈ lw_tbl, isNest w = true → va_Nw w s) ∧
  (∀ q ∈ castW, va_Nw (.castable q.1 q.2) s) ∧ (∀ q ∈ ncastW, va_Nc q.1 q.2 s) ∧ va_AO "TrueHeard$Clause" s ∧ va_AO "TrueHeard$Runner" s
theorem WF.moved {N0 : Nat} {G : GG} {ro : Nat → Nat} {z : Value} {xs : Nat → Int32} {L : Nat} {s U : State} (h : WF N0 G ro z xs L s) (hW : s.WarmedH U.vm) (hs : N0 ≤ U.heap.size) (hq : ∀ q, q < s.heap.size → ¬ N0 ≤ q → U.heap[q]? = s.heap[q]?) : WF N0 G ro z xs L U := by
  obtain ⟨h1, h2, h3, h4, h5, h6, h7, h8, h9, h10, h11, h12⟩ := h
  have hvm := hW.alike
  refine ⟨⟨hs, h1.2⟩, fun ci q hc => u_Kn_moved hvm (h2 ci q hc), fun k ty hk => ⟨arrOfT_moved hvm (h3 k ty hk).1, (h3 k ty hk).2.moved hvm⟩, fun i hi => ?_, fun i w hw => vk_R.warm hW (h5 i w hw), ⟨?_, ?_⟩, ⟨?_, ?_, h7.2.2⟩, fun w hw hn => ?_, fun q hq => va_Nw.warmC hW (h9 q hq), fun q hq => (h10 q hq).moved hvm, h11.moved hvm, h12.moved hvm⟩
  · obtain ⟨aK, aV, e1, e2, e3⟩ := h4 i hi
    exact ⟨aK, aV, e1, e2, vk_S.moved hvm (vk_S.kept e3 hq)⟩
  · exact va_Z.moved hvm (va_Z.kept h6.1 hq)
  · exact va_Z.moved hvm (va_Z.kept h6.2 hq)
  · exact va_X.moved hvm (h7.1.kept (hq _ h7.2.1 h7.2.2))
  · have := h7.2.2
    omega
  · cases w <;> first | exact va_Nw.warmM hW (h8 _ hw rfl) | exact absurd hn (by simp [isNest])
theorem nest_on {w : Cond} (h : isNest w = true) : w.onTables = true := by
  cases w <;> first | rfl | exact absurd h (by simp [isNest])
theorem WF.same {N0 : Nat} {G : GG} {ro : Nat → Nat} {z : Value} {xs : Nat → Int32} {L : Nat} {s U : State} (h : WF N0 G ro z xs L s) (hv : U.vm = s.vm) (hh : U.heap = s.heap) : WF N0 G ro z xs L U := by
  obtain ⟨h1, h2, h3, h4, h5, h6, h7, h8, h9, h10, h11, h12⟩ := h
  have hvm : s.vm.Alike U.vm := by rw [hv]; exact Vm.Alike.refl _
  have hq : ∀ q, q < s.heap.size → ¬ N0 ≤ q → U.heap[q]? = s.heap[q]? := fun q _ _ => by rw [hh]
  refine ⟨⟨by rw [hh]; exact h1.1, h1.2⟩, fun ci q hc => u_Kn_moved hvm (h2 ci q hc), fun k ty hk => ⟨arrOfT_moved hvm (h3 k ty hk).1, (h3 k ty hk).2.moved hvm⟩, fun i hi => ?_, fun i w hw => vk_R.same hv (h5 i w hw), ⟨?_, ?_⟩, ⟨?_, by rw [hh]; exact h7.2.1, h7.2.2⟩, fun w hw hn => va_Nw.same (nest_on hn) hv.symm (h8 w hw hn), fun q hq => va_Nw.same rfl hv.symm (h9 q hq), fun q hq => (h10 q hq).moved hvm, h11.moved hvm, h12.moved hvm⟩
  · obtain ⟨aK, aV, e1, e2, e3⟩ := h4 i hi
    exact ⟨aK, aV, e1, e2, vk_S.moved hvm (vk_S.kept e3 hq)⟩
  · exact va_Z.moved hvm (va_Z.kept h6.1 hq)
  · exact va_Z.moved hvm (va_Z.kept h6.2 hq)
  · exact va_X.moved hvm (h7.1.kept (hq _ h7.2.1 h7.2.2))
theorem cad_inj {N0 : Nat} {ro : Nat → Nat} {a b : Nat} (ha : 28 ≤ a) (hb : 28 ≤ b) (h : cad N0 ro a = cad N0 ro b) : a = b := by
  unfold cad at h
  rw [if_neg (by omega), if_neg (by omega)] at h
  omega
theorem cad_ge {N0 : Nat} {ro : Nat → Nat} {a : Nat} (ha : 28 ≤ a) : N0 ≤ cad N0 ro a := by
  unfold cad
  rw [if_neg (by omega)]
  omega
theorem shOK_lo {μ : MM} {q : Nat} (h : shOK μ q) (hs : shp μ q < 26) : 28 ≤ q ∧ q < msz μ := by
  rcases h with ⟨h1, h2⟩ | ⟨h1, h2, -⟩ | ⟨h1, h2, h3⟩
  · unfold roK at h2
    split at h2
    · omega
    · split at h2
      · omega
      · split at h2 <;> omega
  · exact ⟨h1, h2⟩
  · omega
theorem shOK_ro {μ : MM} {q : Nat} (h : shOK μ q) (hs : 30 ≤ shp μ q) (hs2 : shp μ q < 34) : q < 28 ∧ shp μ q = roK q := by
  rcases h with h | ⟨h1, h2, h3⟩ | ⟨h1, h2, h3⟩
  · exact h
  · omega
  · omega
theorem Rep.at {N0 : Nat} {G : GG} {ro : Nat → Nat} {xs : Nat → Int32} {L : Nat} {μ : MM} {H : Heap} {q : Nat} (h : Rep N0 G ro xs L μ H) (hs : shp μ q < 26) : 28 ≤ q ∧ q < msz μ ∧ cellok G (cad N0 ro) μ H q := by
  have h1 := shOK_lo (h.2.1 q) hs
  exact ⟨h1.1, h1.2, h.2.2.2 q h1.1 h1.2⟩
theorem kty_none {k : Nat} (h : k < 13) : kty k = none := by
  unfold kty
  split <;> first | rfl | omega
theorem Rep.obj {N0 : Nat} {G : GG} {ro : Nat → Nat} {xs : Nat → Int32} {L : Nat} {μ : MM} {H : Heap} {q c : Nat} {r : vw_C} (h : Rep N0 G ro xs L μ H) (hs : shp μ q = c) (hc : c < 13) (hr : vwCl[c]? = some r) : t_OB (cad N0 ro q) (G.1 c) r.2.2 (G.2.1 c) H (fun k => fvl (cad N0 ro) μ q k (r.2.1 k).2.2.1) := by
  obtain ⟨-, -, h3⟩ := h.at (q := q) (by omega)
  unfold cellok at h3
  rw [hs, kty_none hc] at h3
  obtain ⟨r', e1, e2⟩ := h3
  cases hr.symm.trans e1
  exact e2
theorem Rep.arr {N0 : Nat} {G : GG} {ro : Nat → Nat} {xs : Nat → Int32} {L : Nat} {μ : MM} {H : Heap} {q k : Nat} {ty : FieldType} (h : Rep N0 G ro xs L μ H) (hs : shp μ q = k) (hk : kty k = some ty) : H[cad N0 ro q]? = some (arrV (G.2.2 k) (aln μ q) (fun j => elv (cad N0 ro) μ q j ty)) := by
  have hl : k < 26 := by
    unfold kty at hk
    split at hk <;> first | omega | cases hk
  obtain ⟨-, -, h3⟩ := h.at (q := q) (by omega)
  unfold cellok at h3
  rw [hs, hk] at h3
  exact h3
theorem cellok_congr {G : GG} {f : Nat → Nat} {μ μ' : MM} {H H' : Heap} {q : Nat} (hs : shp μ' q = shp μ q) (hn : aln μ' q = aln μ q) (hI : ∀ k, gI μ' q k = gI μ q k) (hL : ∀ k, gL μ' q k = gL μ q k) (hR : ∀ k, gR μ' q k = gR μ q k) (hH : H'[f q]? = H[f q]?) (h : cellok G f μ H q) : cellok G f μ' H' q := by
  unfold cellok at h ⊢
  rw [hs, hn]
  have e1 : ∀ ty, (fun j => elv f μ' q j ty) = fun j => elv f μ q j ty := fun ty => funext fun j => by unfold elv; rw [hI, hL, hR]
  have e2 : ∀ r : vw_C, (fun k => fvl f μ' q k (r.2.1 k).2.2.1) = fun k => fvl f μ q k (r.2.1 k).2.2.1 := fun r => funext fun k => by unfold fvl fvk; rw [hI, hR]
  split
  · next ty hk =>
    rw [hk] at h
    rw [hH, e1]
    exact h
  · next hk =>
    rw [hk] at h
    obtain ⟨r, h1, h2⟩ := h
    exact ⟨r, h1, by rw [e2]; exact h2.kept hH⟩
/-- one cell is written -/
theorem Rep.upd {N0 : Nat} {G : GG} {ro : Nat → Nat} {xs : Nat → Int32} {L : Nat} {μ μ' : MM} {H H' : Heap} {a : Nat} (h : Rep N0 G ro xs L μ H) (ha : 28 ≤ a)
    (hs : ∀ q, shp μ' q = shp μ q) (hn : ∀ q, aln μ' q = aln μ q) (hz : msz μ' = msz μ) (hI : ∀ q k, q ≠ a → gI μ' q k = gI μ q k) (hL : ∀ q k, q ≠ a → gL μ' q k = gL μ q k) (hR : ∀ q k, q ≠ a → gR μ' q k = gR μ q k)
    (hc : cellok G (cad N0 ro) μ' H' a) (e2 : H'.size = H.size) (e3 : ∀ q, q ≠ cad N0 ro a → H'[q]? = H[q]?) : Rep N0 G ro xs L μ' H' := by
  obtain ⟨h1, h2, h3, h4⟩ := h
  refine ⟨⟨by rw [hz]; exact h1.1, by rw [e2, hz]; exact h1.2⟩, fun q => ?_, ⟨fun i hi => ?_, by rw [hn]; exact h3.2.1, fun j => by rw [hI _ _ (by omega)]; exact h3.2.2 j⟩, fun q hq1 hq2 => ?_⟩
  · unfold shOK
    rw [hs, hz]
    exact h2 q
  · obtain ⟨g1, g2, g3, g4⟩ := h3.1 i hi
    exact ⟨by rw [hR _ _ (by omega)]; exact g1, by rw [hI _ _ (by omega)]; exact g2, by rw [hn]; exact g3, fun j => by rw [hI _ _ (by omega)]; exact g4 j⟩
  · by_cases hqa : q = a
    · rw [hqa]; exact hc
    · exact cellok_congr (hs q) (hn q) (fun k => hI q k hqa) (fun k => hL q k hqa) (fun k => hR q k hqa) (e3 _ (fun e => hqa (cad_inj hq1 ha e))) (h4 q hq1 (by rw [hz] at hq2; exact hq2))
/-- one cell is made -/
theorem Rep.push {N0 : Nat} {G : GG} {ro : Nat → Nat} {xs : Nat → Int32} {L : Nat} {μ : MM} {H H' : Heap} {kd n sl : Nat} (h : Rep N0 G ro xs L μ H) (hk : kd < 26)
    (hc : cellok G (cad N0 ro) (alc μ kd n sl) H' (msz μ)) (e2 : H'.size = H.size + 1) (e3 : ∀ q, q < H.size → H'[q]? = H[q]?) : Rep N0 G ro xs L (alc μ kd n sl) H' := by
  obtain ⟨h1, h2, h3, h4⟩ := h
  have ez : msz (alc μ kd n sl) = msz μ + 1 := rfl
  have es : ∀ q, shp (alc μ kd n sl) q = if q = msz μ then kd else shp μ q := fun q => rfl
  have en : ∀ q, aln (alc μ kd n sl) q = if q = msz μ then n else aln μ q := fun q => rfl
  have eI : ∀ q k, gI (alc μ kd n sl) q k = if q = msz μ then 0 else gI μ q k := fun q k => rfl
  have eL : ∀ q k, gL (alc μ kd n sl) q k = if q = msz μ then 0 else gL μ q k := fun q k => rfl
  have eR : ∀ q k, gR (alc μ kd n sl) q k = if q = msz μ then none else gR μ q k := fun q k => rfl
  have h28 := h1.1
  refine ⟨⟨by rw [ez]; omega, by rw [e2, ez]; have := h1.2; omega⟩, fun q => ?_, ⟨fun i hi => ?_, by rw [en, if_neg (by omega)]; exact h3.2.1, fun j => by rw [eI, if_neg (by omega)]; exact h3.2.2 j⟩, fun q hq1 hq2 => ?_⟩
  · unfold shOK
    rw [es, ez]
    by_cases hq : q = msz μ
    · rw [if_pos hq]
      exact Or.inr (Or.inl ⟨by omega, by omega, hk⟩)
    · rw [if_neg hq]
      rcases h2 q with g | ⟨g1, g2, g3⟩ | ⟨g1, g2, g3⟩
      · exact Or.inl g
      · exact Or.inr (Or.inl ⟨g1, by omega, g3⟩)
      · exact Or.inr (Or.inr ⟨g1, by omega, g3⟩)
  · obtain ⟨g1, g2, g3, g4⟩ := h3.1 i hi
    exact ⟨by rw [eR, if_neg (by omega)]; exact g1, by rw [eI, if_neg (by omega)]; exact g2, by rw [en, if_neg (by omega)]; exact g3, fun j => by rw [eI, if_neg (by omega)]; exact g4 j⟩
  · by_cases hqa : q = msz μ
    · rw [hqa]; exact hc
    · rw [ez] at hq2
      refine cellok_congr (μ := μ) (by rw [es, if_neg hqa]) (by rw [en, if_neg hqa]) (fun k => by rw [eI, if_neg hqa]) (fun k => by rw [eL, if_neg hqa]) (fun k => by rw [eR, if_neg hqa]) (e3 _ ?_) (h4 q hq1 (by omega))
      unfold cad
      rw [if_neg (by omega)]
      have := h1.2
      omega
