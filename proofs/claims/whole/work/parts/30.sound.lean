theorem z_at_eq {α : Type} (l : List α) (i : Nat) : z_at l i = l[i]? := by
  induction l generalizing i with
  | nil => simp [z_at]
  | cons a l ih => cases i with
    | zero => simp [z_at]
    | succ n => simp [z_at, ih]
theorem z_find_in {l : List zE} {pc : Nat} {E : zE} (h : z_find l pc = some E) : E ∈ l ∧ E.1 = pc := by
  induction l with
  | nil => simp [z_find] at h
  | cons a l ih =>
    simp only [z_find] at h
    by_cases e : a.1 = pc
    · rw [if_pos e] at h
      cases h
      exact ⟨List.mem_cons_self, e⟩
    · rw [if_neg e] at h
      exact ⟨List.mem_cons_of_mem _ (ih h).1, (ih h).2⟩
theorem z_i_v {α : Type} {s : List Value} {k : Int32 → List Value → Option α} {a : α} (h : z_i s k = some a) : ∃ x r, s = .int x :: r ∧ k x r = some a := by
  unfold z_i at h
  split at h
  · exact ⟨_, _, rfl, h⟩
  · cases h
theorem z_l_v {α : Type} {s : List Value} {k : Int64 → List Value → Option α} {a : α} (h : z_l s k = some a) : ∃ x r, s = .long x :: r ∧ k x r = some a := by
  unfold z_l at h
  split at h
  · exact ⟨_, _, rfl, h⟩
  · cases h
theorem z_r_v {α : Type} {s : List Value} {k : Nat → List Value → Option α} {a : α} (h : z_r s k = some a) : ∃ x r, s = .ref x :: r ∧ k x r = some a := by
  unfold z_r at h
  split at h
  · exact ⟨_, _, rfl, h⟩
  · cases h
theorem z_v_v {α : Type} {s : List Value} {k : Value → List Value → Option α} {a : α} (h : z_v s k = some a) : ∃ x r, s = x :: r ∧ x.category = 1 ∧ k x r = some a := by
  unfold z_v at h
  split at h
  · exact ⟨_, _, rfl, rfl, h⟩
  · exact ⟨_, _, rfl, rfl, h⟩
  · cases h
theorem z_ldi_v {α : Type} {loc : List (Option Value)} {i : Nat} {k : Int32 → Option α} {a : α} (h : z_ldi loc i k = some a) : ∃ v, z_at loc i = some (some (.int v)) ∧ k v = some a := by
  unfold z_ldi at h
  split at h
  · exact ⟨_, by assumption, h⟩
  · cases h
theorem z_ldl_v {α : Type} {loc : List (Option Value)} {i : Nat} {k : Int64 → Option α} {a : α} (h : z_ldl loc i k = some a) : ∃ v, z_at loc i = some (some (.long v)) ∧ k v = some a := by
  unfold z_ldl at h
  split at h
  · exact ⟨_, by assumption, h⟩
  · cases h
theorem z_ldr_v {α : Type} {loc : List (Option Value)} {i : Nat} {k : Nat → Option α} {a : α} (h : z_ldr loc i k = some a) : ∃ v, z_at loc i = some (some (.ref v)) ∧ k v = some a := by
  unfold z_ldr at h
  split at h
  · exact ⟨_, by assumption, h⟩
  · cases h
theorem z_sto_v {α : Type} {loc : List (Option Value)} {i : Nat} {v : Value} {k : List (Option Value) → Option α} {a : α} (h : z_sto loc i v k = some a) : i < loc.length ∧ z_free loc i = true ∧ k (loc.set i (some v)) = some a := by
  unfold z_sto at h
  split at h
  · rename_i c
    exact ⟨c.1, c.2, h⟩
  · cases h
theorem z_obj_v {α : Type} {sh : List zS} {p ci : Nat} {k : List (Option Nat) → Option α} {a : α} (h : z_obj sh p ci k = some a) : ∃ rs, z_at sh p = some (0, ci, rs) ∧ k rs = some a := by
  unfold z_obj at h
  split at h
  · split at h
    · rename_i e c
      subst c
      exact ⟨_, e, h⟩
    · cases h
  · cases h
theorem z_ints_v {α : Type} {sh : List zS} {p : Nat} {k : Nat → Option α} {a : α} (h : z_ints sh p k = some a) : ∃ n rs, z_at sh p = some (1, n, rs) ∧ k n = some a := by
  unfold z_ints at h
  split at h
  · exact ⟨_, _, by assumption, h⟩
  · cases h
theorem z_bools_v {α : Type} {sh : List zS} {p : Nat} {k : Nat → Option α} {a : α} (h : z_bools sh p k = some a) : ∃ n rs, z_at sh p = some (2, n, rs) ∧ k n = some a := by
  unfold z_bools at h
  split at h
  · exact ⟨_, _, by assumption, h⟩
  · cases h
theorem z_refs_v {α : Type} {sh : List zS} {p : Nat} {k : Nat → List (Option Nat) → Option α} {a : α} (h : z_refs sh p k = some a) : ∃ n rs, z_at sh p = some (3, n, rs) ∧ k n rs = some a := by
  unfold z_refs at h
  split at h
  · exact ⟨_, _, by assumption, h⟩
  · cases h
theorem z_in_v {i : Int32} {n : Nat} (h : z_in i n = true) : vp_in i n := by
  intro q
  unfold z_in at h
  rcases q with q | q <;> simp [q] at h
/-- values, cells, worlds -/
def z_val (A : Nat → Nat) (v : Value) : Value := match v with
  | .ref p => .ref (A p)
  | w => w
def z_fs (A : Nat → Nat) (kd : List Nat) (rs : List (Option Nat)) (f : Nat → Int32) : List Value := kd.mapIdx (fun j q => if q < 2 then .int (f j) else va_rf (((z_at rs j).getD none).map A))
def z_cell (A : Nat → Nat) (cA : Nat → ClassId) (e : zS) (f : Nat → Int32) : va_E := match e.1 with
  | 0 => .inr (e.2.1, z_fs A ((z_at zCT e.2.1).getD []) e.2.2 f)
  | 1 => .inl (cA 0, e.2.1, .inl f)
  | 2 => .inl (cA 1, e.2.1, .inl f)
  | _ => .inl (cA 2, e.2.1, .inr (.inr (.inr (.inr (fun j => ((z_at e.2.2 j).getD none).map A)))))
def z_W (A : Nat → Nat) (cA : Nat → ClassId) (sh : List zS) (M : Nat → Nat → Int32) : va_W := sh.mapIdx (fun i e => (A i, z_cell A cA e (M i)))
theorem z_W_at (A : Nat → Nat) (cA : Nat → ClassId) (sh : List zS) (M : Nat → Nat → Int32) (i : Nat) : (z_W A cA sh M)[i]? = (z_at sh i).map (fun e => (A i, z_cell A cA e (M i))) := by
  rw [z_at_eq, z_W, List.getElem?_mapIdx]
theorem z_W_g {A : Nat → Nat} {cA : Nat → ClassId} {sh : List zS} {M : Nat → Nat → Int32} {i : Nat} {e : zS} (h : z_at sh i = some e) : (z_W A cA sh M)[i]? = some (A i, z_cell A cA e (M i)) := by
  rw [z_W_at, h]; rfl
theorem z_W_m {A : Nat → Nat} {cA : Nat → ClassId} {sh : List zS} {M : Nat → Nat → Int32} {p : Nat} {e : zS} {g : Nat → Int32} (h : z_at sh p = some e) : z_W A cA sh (va_up M p g) = (z_W A cA sh M).set p (A p, z_cell A cA e g) := by
  apply List.ext_getElem?
  intro i
  rw [List.getElem?_set, z_W_at, z_W_at]
  by_cases hp : p = i
  · subst hp
    have hl : p < (z_W A cA sh M).length := by
      have := z_W_g (A := A) (cA := cA) (M := M) h
      exact (List.getElem?_eq_some_iff.mp this).1
    rw [if_pos rfl, if_pos hl, h]
    simp [va_up]
  · rw [if_neg hp]
    have : va_up M p g i = M i := by unfold va_up; rw [if_neg (fun q => hp q.symm)]
    rw [this]
theorem z_W_s {A : Nat → Nat} {cA : Nat → ClassId} {sh : List zS} {M : Nat → Nat → Int32} {p : Nat} {e e' : zS} (h : z_at sh p = some e) : z_W A cA (sh.set p e') M = (z_W A cA sh M).set p (A p, z_cell A cA e' (M p)) := by
  apply List.ext_getElem?
  intro i
  rw [List.getElem?_set, z_W_at, z_W_at, z_at_eq, List.getElem?_set]
  have hl1 : p < sh.length := by
    rw [z_at_eq] at h
    exact (List.getElem?_eq_some_iff.mp h).1
  have hl : p < (z_W A cA sh M).length := by
    have := z_W_g (A := A) (cA := cA) (M := M) h
    exact (List.getElem?_eq_some_iff.mp this).1
  by_cases hp : p = i
  · subst hp
    rw [if_pos rfl, if_pos hl1, if_pos rfl, if_pos hl]
    rfl
  · rw [if_neg hp, if_neg hp, z_at_eq]
/-- two maps of places agree below n and far above -/
def z_ag (n : Nat) (A A' : Nat → Nat) : Prop := ∀ i, i < n ∨ 1000 ≤ i → A' i = A i
theorem z_ag_rf (n : Nat) (A : Nat → Nat) : z_ag n A A := fun _ _ => rfl
theorem z_ag_tr {n k : Nat} {A B C : Nat → Nat} (h1 : z_ag n A B) (h2 : z_ag k B C) (hn : n ≤ k) : z_ag n A C := fun i hi => (h2 i (hi.imp (fun h => Nat.lt_of_lt_of_le h hn) id)).trans (h1 i hi)
theorem z_ag_up {n q : Nat} {A : Nat → Nat} (h : n < 1000) : z_ag n A (va_up A n q) := fun i hi => by
  unfold va_up
  rw [if_neg (by omega)]
theorem z_val_ag {n : Nat} {A A' : Nat → Nat} (h : z_ag n A A') {v : Value} (hv : z_lo n v = true) : z_val A' v = z_val A v := by
  cases v <;> try rfl
  simp only [z_lo, Bool.or_eq_true, decide_eq_true_eq] at hv
  simp only [z_val]
  rw [h _ hv]
theorem z_vals_ag {n : Nat} {A A' : Nat → Nat} (h : z_ag n A A') {l : List Value} (hv : l.all (z_lo n) = true) : l.map (z_val A') = l.map (z_val A) :=
  List.map_congr_left fun v m => z_val_ag h (List.all_eq_true.mp hv v m)
theorem z_on_ag {n : Nat} {A A' : Nat → Nat} (h : z_ag n A A') {r : Option Nat} (hr : z_loN n r = true) : r.map A' = r.map A := by
  cases r with
  | none => rfl
  | some a =>
    simp only [z_loN, decide_eq_true_eq] at hr
    simp only [Option.map_some, h a (Or.inl hr)]
theorem z_ref_ag {n : Nat} {A A' : Nat → Nat} (h : z_ag n A A') {rs : List (Option Nat)} (hr : rs.all (z_loN n) = true) (j : Nat) : ((z_at rs j).getD none).map A' = ((z_at rs j).getD none).map A := by
  cases e : z_at rs j with
  | none => rfl
  | some r =>
    rw [z_at_eq] at e
    exact z_on_ag h (List.all_eq_true.mp hr r (List.mem_of_getElem? e))
theorem z_cell_ag {n : Nat} {A A' : Nat → Nat} (h : z_ag n A A') (cA : Nat → ClassId) {e : zS} (hr : e.2.2.all (z_loN n) = true) (f : Nat → Int32) : z_cell A' cA e f = z_cell A cA e f := by
  have e1 : ∀ kd : List Nat, z_fs A' kd e.2.2 f = z_fs A kd e.2.2 f := by
    intro kd
    unfold z_fs
    congr 1
    funext j q
    rw [z_ref_ag h hr j]
  have e2 : (fun j => ((z_at e.2.2 j).getD none).map A') = (fun j => ((z_at e.2.2 j).getD none).map A) := funext fun j => z_ref_ag h hr j
  unfold z_cell
  rw [e1, e2]
theorem z_W_a {A : Nat → Nat} {cA : Nat → ClassId} {sh : List zS} {M : Nat → Nat → Int32} {q : Nat} {e : zS} {g : Nat → Int32} (hn : sh.length < 1000) (hs : z_allS sh.length sh = true) :
    z_W (va_up A sh.length q) cA (sh ++ [e]) (va_up M sh.length g) = z_W A cA sh M ++ [(q, z_cell (va_up A sh.length q) cA e g)] := by
  have ha := z_ag_up (q := q) (A := A) hn
  apply List.ext_getElem?
  intro i
  have hlen : (z_W A cA sh M).length = sh.length := by simp [z_W]
  rw [z_W_at, z_at_eq]
  by_cases hi : i < sh.length
  · rw [List.getElem?_append_left hi, List.getElem?_append_left (by rw [hlen]; exact hi), z_W_at, z_at_eq]
    cases he : sh[i]? with
    | none => rfl
    | some x =>
      have hx := List.all_eq_true.mp hs x (List.mem_of_getElem? he)
      simp only [Option.map_some]
      rw [ha i (Or.inl hi), z_cell_ag ha cA hx]
      have : va_up M sh.length g i = M i := by unfold va_up; rw [if_neg (by omega)]
      rw [this]
  · rw [List.getElem?_append_right (by omega), List.getElem?_append_right (by rw [hlen]; omega), hlen]
    by_cases hj : i = sh.length
    · subst hj
      simp [va_up]
    · have h1 : i - sh.length ≠ 0 := by omega
      obtain ⟨k, hk⟩ := Nat.exists_eq_succ_of_ne_zero h1
      rw [hk]
      simp
