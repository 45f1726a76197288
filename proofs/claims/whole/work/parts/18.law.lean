/-! THE LAW OUT OF A RUN OF THE SMALL MACHINE -/
theorem mt_law : mt 209 = km_L_law := rfl
/-- what is left: the law's run, for every script -/
def LawRuns : Prop := ∀ (xs : Nat → Int32) (L : Nat), L ≤ 3072 → ∃ μ9 : MM, ev 1000 209 0 [.ref 26] [] (mu0 xs L) = some (some (.int 1), μ9) ∧ msz μ9 ≤ 600000 ∧ msl μ9 ≤ 7302250
theorem start_of (ok_law : okBk km_L_law = true) (hok : ∀ M, M + 1 < allM.length → ∃ pw, okMT (mt M) pw = true) (hrun : LawRuns) {p : Program} {e : Env} {s : State} {m : MethodId} {below : List Frame} {meth : Method} {c : Code} (l : Launch) {b L : Nat} {xs : Nat → Int32} (hL : L ≤ 3072) (C0 : lw_At p s m meth c b L xs) : W p l e room_1 s m #[Value.ref b] below meth c s.heap [] 0 0 (lw_Z below #[Value.ref b] s) (entryFrame m ([Value.ref b] : List Value).toArray 4) := by
  obtain ⟨hx, hb, hr, hml, hown, hts, hX, hbl, hlocks, hgv⟩ := C0
  obtain ⟨μ9, hev, hz1, hz2⟩ := hrun xs L hL
  obtain ⟨n, hn⟩ := ev_some.mp hev
  obtain ⟨G, ro, z, hro, wf⟩ := wf0 hts hgv hX hbl
  have cx : Cx p room_1 s m #[Value.ref b] meth c s.heap.size G ro z xs L (mt 209) 1000 28 0 μ9 := by
    rw [mt_law]
    refine ⟨hx, hb, hml, hown, fun w hw => hts w (List.mem_filter.mp hw).1, fun q => absurd q (by decide), wf, Nat.le_of_ble_eq_true rfl, Nat.le_of_ble_eq_true rfl, ?_, ?_⟩
    · show msz μ9 - 28 ≤ 600000
      omega
    · show msl μ9 - 0 ≤ 7302250
      omega
  have hk := (simE wf.1.2 hok oi_ok n p l e room_1 s m #[Value.ref b] below meth c (lw_Z below #[Value.ref b] s) 28 0 1000 209 0 (some (.int 1)) μ9 [.ref 26] [] (mu0 xs L) (by rw [mt_law]; exact ok_law) (fun pc i H locs Ls hd hret hR9 hS9 => ?_) cx hn).sub (ls := [(0, .ref 26)]) (fun q hq => by rw [mt_law] at hq; exact hq)
  · have hl := lv_entry ([.ref b]) (n := 4) (Nat.le_of_ble_eq_true rfl)
    rw [lg_entry_eq]
    have e1 : cl2 (cad s.heap.size ro) z [(0, Value.ref 26)] = lv_args 0 [Value.ref b] := by
      have e2 : cad s.heap.size ro 26 = b := by
        unfold cad
        rw [if_pos (by decide), hro]
      show [(0, Value.ref (cad s.heap.size ro 26))] = [(0, Value.ref b)]
      rw [e2]
    rw [← e1] at hl
    have hk2 := hk.2 s.heap [] _ rep0 va_S.rf (by rw [mt_law]; exact hl) (Nat.le_refl _) (Nat.le_refl _)
    rw [mt_law] at hk2
    exact hk2
  · rw [mt_law] at hd hret
    cases i with
    | ireturn =>
      refine va_forget hS9.2.2 (W.widen (k := 600000) (n := 7302250) (by omega) (by omega) ?_)
      exact lw_ret hx hb hr hlocks hd
    | lreturn =>
      obtain ⟨x, e1, -⟩ := hret
      cases e1
    | areturn =>
      obtain ⟨e1 | ⟨a, e1⟩, -⟩ := hret <;> cases e1
    | return_ => cases hret.1
    | _ => exact False.elim hret
