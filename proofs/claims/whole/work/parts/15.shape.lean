/-! WHAT AN INSTRUCTION DOES: it goes on, or jumps, or calls once and goes on, or ends; memory grows -/
abbrev CT : Type := Nat → List Value → MM → Rs
abbrev JT : Type := Nat → LV → List Value → MM → Rs
abbrev KT : Type := LV → List Value → MM → Rs
def Shp (μ : MM) (f : CT → JT → KT → Rs) : Prop :=
  (∃ ls st μ1, mle μ μ1 ∧ ∀ C J K, f C J K = K ls st μ1) ∨ (∃ b ls st μ1, mle μ μ1 ∧ ∀ C J K, f C J K = J b ls st μ1) ∨ (∃ y : Rs, (∀ p, y = some p → mle μ p.2) ∧ ∀ C J K, f C J K = y) ∨
  (∃ rk M ar ls st, ∀ C J K, f C J K = bnd rk (C M ar μ) (fun rs μ => K ls (rs ++ st) μ))
theorem shp_K {μ μ1 : MM} {ls : LV} {st : List Value} (h : mle μ μ1) : Shp μ (fun _ _ K => K ls st μ1) := Or.inl ⟨ls, st, μ1, h, fun _ _ _ => rfl⟩
theorem shp_J {μ : MM} {b : Nat} {ls : LV} {st : List Value} : Shp μ (fun _ J _ => J b ls st μ) := Or.inr (Or.inl ⟨b, ls, st, μ, mle_rf, fun _ _ _ => rfl⟩)
theorem shp_none {μ : MM} : Shp μ (fun _ _ _ => none) := Or.inr (Or.inr (Or.inl ⟨none, (fun _ h => by cases h), fun _ _ _ => rfl⟩))
theorem shp_ret {μ : MM} {v : Option Value} : Shp μ (fun _ _ _ => some (v, μ)) := Or.inr (Or.inr (Or.inl ⟨some (v, μ), (fun _ h => by cases h; exact mle_rf), fun _ _ _ => rfl⟩))
theorem shp_C {μ : MM} {rk M : Nat} {ar : List Value} {ls : LV} {st : List Value} : Shp μ (fun C _ K => bnd rk (C M ar μ) (fun rs μ => K ls (rs ++ st) μ)) := Or.inr (Or.inr (Or.inr ⟨rk, M, ar, ls, st, fun _ _ _ => rfl⟩))
theorem shp_gd {μ : MM} {b : Bool} {f : CT → JT → KT → Rs} (h : Shp μ f) : Shp μ (fun C J K => gd b (f C J K)) := by
  cases b with
  | true => exact h
  | false => exact shp_none
theorem shp_asI {μ : MM} {v : Value} {f : Int32 → CT → JT → KT → Rs} (h : ∀ x, Shp μ (f x)) : Shp μ (fun C J K => asI v (fun x => f x C J K)) := by
  cases v <;> first | exact h _ | exact shp_none
theorem shp_asL {μ : MM} {v : Value} {f : Int64 → CT → JT → KT → Rs} (h : ∀ x, Shp μ (f x)) : Shp μ (fun C J K => asL v (fun x => f x C J K)) := by
  cases v <;> first | exact h _ | exact shp_none
theorem shp_asR {μ : MM} {v : Value} {f : Nat → CT → JT → KT → Rs} (h : ∀ x, Shp μ (f x)) : Shp μ (fun C J K => asR v (fun x => f x C J K)) := by
  cases v <;> first | exact h _ | exact shp_none
theorem shp_asN {μ : MM} {v : Value} {g : CT → JT → KT → Rs} {f : Nat → CT → JT → KT → Rs} (h0 : Shp μ g) (h : ∀ x, Shp μ (f x)) : Shp μ (fun C J K => asN v (g C J K) (fun x => f x C J K)) := by
  cases v <;> first | exact h _ | exact h0 | exact shp_none
theorem shp_cat1 {μ : MM} {v : Value} {f : CT → JT → KT → Rs} (h : Shp μ f) : Shp μ (fun C J K => cat1 v (f C J K)) := by
  cases v <;> first | exact h | exact shp_none
theorem shp_p1 {μ : MM} {st : List Value} {f : Value → List Value → CT → JT → KT → Rs} (h : ∀ v r, Shp μ (f v r)) : Shp μ (fun C J K => p1 st (fun v r => f v r C J K)) := by
  cases st with
  | nil => exact shp_none
  | cons v r => exact h v r
theorem shp_ppI {μ : MM} {st : List Value} {f : Int32 → List Value → CT → JT → KT → Rs} (h : ∀ v r, Shp μ (f v r)) : Shp μ (fun C J K => ppI st (fun v r => f v r C J K)) := shp_p1 fun v r => shp_asI fun x => h x r
theorem shp_ppL {μ : MM} {st : List Value} {f : Int64 → List Value → CT → JT → KT → Rs} (h : ∀ v r, Shp μ (f v r)) : Shp μ (fun C J K => ppL st (fun v r => f v r C J K)) := shp_p1 fun v r => shp_asL fun x => h x r
theorem shp_ppR {μ : MM} {st : List Value} {f : Nat → List Value → CT → JT → KT → Rs} (h : ∀ v r, Shp μ (f v r)) : Shp μ (fun C J K => ppR st (fun v r => f v r C J K)) := shp_p1 fun v r => shp_asR fun x => h x r
theorem shp_lgt {μ : MM} {i : Nat} {f : Value → CT → JT → KT → Rs} (h : ∀ v, Shp μ (f v)) : ∀ l : LV, Shp μ (fun C J K => lgt l i (fun v => f v C J K))
  | [] => shp_none
  | q :: l => by
    unfold lgt
    cases Nat.beq q.1 i with
    | true => exact h _
    | false => exact shp_lgt h l
theorem shp_ppN {μ : MM} {f : List Value → List Value → CT → JT → KT → Rs} (h : ∀ v r, Shp μ (f v r)) : ∀ (n : Nat) (st acc : List Value), Shp μ (fun C J K => ppN n st acc (fun v r => f v r C J K))
  | 0, st, acc => h acc st
  | n + 1, st, acc => shp_p1 (f := fun v r C J K => ppN n r (v :: acc) (fun v r => f v r C J K)) fun v r => shp_ppN h n r (v :: acc)
theorem shp_ite {μ : MM} {c : Prop} [Decidable c] {f g : CT → JT → KT → Rs} (h1 : Shp μ f) (h2 : Shp μ g) : Shp μ (fun C J K => if c then f C J K else g C J K) := by
  by_cases h : c
  · rw [show (fun C J K => if c then f C J K else g C J K) = f from funext fun C => funext fun J => funext fun K => if_pos h]; exact h1
  · rw [show (fun C J K => if c then f C J K else g C J K) = g from funext fun C => funext fun J => funext fun K => if_neg h]; exact h2
theorem shp_sw {μ : MM} {d : Nat} {x : Int32} {f : Nat → CT → JT → KT → Rs} (h : ∀ v, Shp μ (f v)) : ∀ (bs : List Nat) (lo : Int), Shp μ (fun C J K => sw lo bs d x (fun v => f v C J K))
  | [], lo => h d
  | b :: bs, lo => shp_ite (f := fun C J K => f b C J K) (g := fun C J K => sw (lo + 1) bs d x (fun v => f v C J K)) (h b) (shp_sw h bs (lo + 1))
theorem shp_lsw {μ : MM} {d : Nat} {x : Int32} {f : Nat → CT → JT → KT → Rs} (h : ∀ v, Shp μ (f v)) : ∀ (ps : List (Int × Int)) (bs : List Nat), Shp μ (fun C J K => lsw ps bs d x (fun v => f v C J K))
  | [], [] => h d
  | [], b :: bs => shp_none
  | p :: ps, [] => shp_none
  | p :: ps, b :: bs => shp_ite (f := fun C J K => f b C J K) (g := fun C J K => lsw ps bs d x (fun v => f v C J K)) (h b) (shp_lsw h ps bs)
theorem shp_dsp {μ : MM} {s : Nat} {f : Nat → CT → JT → KT → Rs} (h : ∀ v, Shp μ (f v)) : ∀ (cs : List Nat), Shp μ (fun C J K => dsp cs s (fun v => f v C J K))
  | [] => shp_none
  | [_] => shp_none
  | c :: M :: r => by
    unfold dsp
    cases Nat.beq s c with
    | true => exact h M
    | false => exact shp_dsp h r
theorem mle_alc {μ : MM} {k n s : Nat} : mle μ (alc μ k n s) := ⟨Nat.le_succ _, Nat.le_add_right _ _⟩
theorem mle_sI {μ : MM} {k n : Nat} {s : Int32} : mle μ (sI μ k n s) := mle_rf
theorem mle_sL {μ : MM} {k n : Nat} {s : Int64} : mle μ (sL μ k n s) := mle_rf
theorem mle_sR {μ : MM} {k n : Nat} {s : Option Nat} : mle μ (sR μ k n s) := mle_rf
theorem mle_cpI {μ : MM} {a b c d e : Nat} : mle μ (cpI μ a b c d e) := mle_rf
theorem shp_rtg {μ : MM} {a : List Nat} {x : Int32} {f : CT → JT → KT → Rs} (h : Shp μ f) : Shp μ (fun C J K => rtg a x (f C J K)) := by
  unfold rtg
  split
  · exact h
  · exact shp_gd h
  · exact shp_gd h
  · exact shp_gd h
  · exact shp_none
set_option maxHeartbeats 4000000 in
theorem shp_x1 (i : Instr) (as : List Nat) (ls : LV) (st : List Value) (μ : MM) : Shp μ (fun C J K => x1 C J i as ls st μ K) := by
  cases i <;> first
    | exact shp_none
    | exact shp_K mle_rf
    | exact shp_lgt (fun v => shp_asI fun x => shp_K mle_rf) _
    | exact shp_lgt (fun v => shp_asL fun x => shp_K mle_rf) _
    | exact shp_lgt (fun v => shp_asN (shp_K mle_rf) fun x => shp_K mle_rf) _
    | exact shp_ppI fun v r => shp_K mle_rf
    | exact shp_ppL fun v r => shp_K mle_rf
    | exact shp_p1 fun v r => shp_asN (shp_K mle_rf) fun x => shp_K mle_rf
    | exact shp_ppI fun v r => shp_ppI fun v r => shp_K mle_rf
    | exact shp_ppI fun v r => shp_ppL fun v r => shp_K mle_rf
    | exact shp_ppL fun v r => shp_ppL fun v r => shp_K mle_rf
    | exact shp_ppI fun v r => shp_ppI fun v r => shp_gd (shp_K mle_rf)
    | exact shp_ppL fun v r => shp_ppL fun v r => shp_gd (shp_K mle_rf)
    | exact shp_p1 fun v r => shp_cat1 (shp_K mle_rf)
    | exact shp_ppR fun v r => shp_gd (shp_K mle_rf)
    | exact shp_ppI fun v r => shp_ppR fun v r => shp_gd (shp_K mle_rf)
    | exact shp_ppI fun v r => shp_ppI fun v r => shp_ppR fun v r => shp_gd (shp_K mle_sI)
    | exact shp_ppL fun v r => shp_ppI fun v r => shp_ppR fun v r => shp_gd (shp_K mle_sL)
    | exact shp_p1 fun v r => shp_ppI fun v r => shp_ppR fun v r => shp_asN (shp_gd (shp_K mle_sR)) fun x => shp_gd (shp_K mle_sR)
    | skip
  case nop => rcases as with _ | ⟨a1, _ | ⟨a2, as⟩⟩ <;> first | exact shp_none | exact shp_J
  case goto => rcases as with _ | ⟨a1, _ | ⟨a2, as⟩⟩ <;> first | exact shp_none | exact shp_J
  case ldc => rcases as with _ | ⟨a1, _ | ⟨a2, _ | ⟨a3, as⟩⟩⟩ <;> first | exact shp_none | (rcases a1 with _ | _ | a1 <;> first | exact shp_none | exact shp_K mle_rf)
  case ldc_w => rcases as with _ | ⟨a1, _ | ⟨a2, _ | ⟨a3, as⟩⟩⟩ <;> first | exact shp_none | (rcases a1 with _ | _ | a1 <;> first | exact shp_none | exact shp_K mle_rf)
  case ldc2_w => rcases as with _ | ⟨a1, _ | ⟨a2, as⟩⟩ <;> first | exact shp_none | exact shp_K mle_rf
  case dup2 =>
    refine shp_p1 fun v r => ?_
    cases v <;> first | exact shp_K mle_rf | exact shp_cat1 (shp_p1 fun v r => shp_cat1 (shp_K mle_rf))
  case ifCond cd off =>
    rcases as with _ | ⟨a1, _ | ⟨a2, _ | ⟨a3, as⟩⟩⟩ <;> cases cd <;> first | exact shp_none | exact shp_ppI fun v r => shp_ite shp_J shp_J
  case if_icmp cd off =>
    rcases as with _ | ⟨a1, _ | ⟨a2, _ | ⟨a3, as⟩⟩⟩ <;> cases cd <;> first | exact shp_none | exact shp_ppI fun v r => shp_ppI fun v r => shp_ite shp_J shp_J
  case ifnull => rcases as with _ | ⟨a1, _ | ⟨a2, _ | ⟨a3, as⟩⟩⟩ <;> first | exact shp_none | exact shp_p1 fun v r => shp_asN shp_J fun x => shp_J
  case ifnonnull => rcases as with _ | ⟨a1, _ | ⟨a2, _ | ⟨a3, as⟩⟩⟩ <;> first | exact shp_none | exact shp_p1 fun v r => shp_asN shp_J fun x => shp_J
  case tableswitch => rcases as with _ | ⟨a1, as⟩ <;> first | exact shp_none | exact shp_ppI fun v r => shp_sw (fun v => shp_J) _ _
  case lookupswitch => rcases as with _ | ⟨a1, as⟩ <;> first | exact shp_none | exact shp_ppI fun v r => shp_lsw (fun v => shp_J) _ _
  case getfield => rcases as with _ | ⟨a1, _ | ⟨a2, as⟩⟩ <;> first | exact shp_none | (rcases a2 with _ | _ | _ | a2 <;> first | exact shp_none | exact shp_ppR fun v r => shp_gd (shp_K mle_rf))
  case putfield =>
    refine shp_p1 fun v r => ?_
    rcases as with _ | ⟨a1, _ | ⟨a2, as⟩⟩ <;> first | exact shp_none | (rcases a2 with _ | _ | _ | a2 <;> first | exact shp_none | exact shp_asI fun x => shp_ppR fun v r => shp_gd (shp_K mle_sI) | exact shp_asN (shp_ppR fun v r => shp_gd (shp_K mle_sR)) fun x => shp_ppR fun v r => shp_gd (shp_K mle_sR))
  case getstatic => rcases as with _ | ⟨a1, _ | ⟨a2, as⟩⟩ <;> first | exact shp_none | (rcases a1 with _ | _ | a1 <;> first | exact shp_none | exact shp_K mle_rf)
  case bastore => rcases as with _ | ⟨a1, _ | ⟨a2, as⟩⟩ <;> first | exact shp_none | (rcases a1 with _ | _ | a1 <;> first | exact shp_none | exact shp_ppI fun v r => shp_ppI fun v r => shp_ppR fun v r => shp_gd (shp_K mle_sI))
  case newarray => rcases as with _ | ⟨a1, _ | ⟨a2, as⟩⟩ <;> first | exact shp_none | exact shp_ppI fun v r => shp_gd (shp_K mle_alc)
  case anewarray => rcases as with _ | ⟨a1, _ | ⟨a2, as⟩⟩ <;> first | exact shp_none | exact shp_ppI fun v r => shp_gd (shp_K mle_alc)
  case new => rcases as with _ | ⟨a1, _ | ⟨a2, _ | ⟨a3, as⟩⟩⟩ <;> first | exact shp_none | exact shp_K mle_alc
  case instanceof =>
    rcases as with _ | ⟨a1, as⟩
    · exact shp_none
    · refine shp_ppR fun v r => shp_gd ?_
      cases cin (as.take a1) (shp μ v) with
      | true => exact shp_K mle_rf
      | false => exact shp_K mle_rf
  case invokestatic =>
    rcases as with _ | ⟨a1, _ | ⟨a2, _ | ⟨a3, _ | ⟨a4, _ | ⟨a5, as⟩⟩⟩⟩⟩ <;> first
      | exact shp_none
      | (rcases a1 with _ | _ | _ | _ | _ | _ | _ | a1 <;> first
        | exact shp_none
        | exact shp_ppI fun v r => shp_ppI fun v r => shp_gd (shp_K mle_rf)
        | exact shp_ppI fun v r => shp_ppI fun v r => shp_ppR fun v r => shp_ppI fun v r => shp_ppR fun v r => shp_gd (shp_K mle_cpI)
        | exact shp_ppN (fun v r => shp_gd shp_C) _ _ _)
  case invokespecial =>
    rcases as with _ | ⟨a1, _ | ⟨a2, _ | ⟨a3, _ | ⟨a4, as⟩⟩⟩⟩ <;> first
      | exact shp_none
      | (rcases a1 with _ | _ | _ | _ | a1 <;> first
        | exact shp_none
        | exact shp_ppR fun v r => shp_gd (shp_K mle_rf)
        | exact shp_ppN (fun v r => shp_ppR fun v r => shp_gd shp_C) _ _ _)
  case invokevirtual =>
    rcases as with _ | ⟨a1, _ | ⟨a2, _ | ⟨a3, as⟩⟩⟩ <;> first
      | exact shp_none
      | (rcases a1 with _ | _ | _ | a1 <;> first
        | exact shp_none
        | exact shp_ppN (fun v r => shp_ppR fun v r => shp_gd (shp_dsp (fun M => shp_C) _)) _ _ _)
  case ireturn =>
    rcases st with _ | ⟨v, _ | ⟨w, st⟩⟩ <;> first | exact shp_none | exact shp_asI fun x => shp_rtg shp_ret
  case lreturn => rcases st with _ | ⟨v, _ | ⟨w, st⟩⟩ <;> first | exact shp_none | exact shp_asL fun x => shp_ret
  case areturn => rcases st with _ | ⟨v, _ | ⟨w, st⟩⟩ <;> first | exact shp_none | exact shp_asN shp_ret fun x => shp_ret
  case return_ => rcases st with _ | ⟨v, st⟩ <;> first | exact shp_none | exact shp_ret
