def z_Loc (A : Nat → Nat) (loc : List (Option Value)) (ls : Array Slot) (nL : Nat) : Prop := ls.size = nL ∧ loc.length = nL ∧ lv_wf ls ∧ ∀ i v, z_at loc i = some (some v) → ls[i]? = some (.val (z_val A v))
def z_as (A : Nat → Nat) (loc : List (Option Value)) : List (Nat × Value) := (List.range loc.length).filterMap (fun i => match z_at loc i with
  | some (some v) => some (i, z_val A v)
  | _ => none)
theorem z_as_in {A : Nat → Nat} {loc : List (Option Value)} {q : Nat × Value} : q ∈ z_as A loc ↔ ∃ v, z_at loc q.1 = some (some v) ∧ q.2 = z_val A v := by
  unfold z_as
  rw [List.mem_filterMap]
  constructor
  · rintro ⟨i, -, h⟩
    split at h
    · rename_i v e
      cases h
      exact ⟨v, e, rfl⟩
    · cases h
  · rintro ⟨v, h1, h2⟩
    refine ⟨q.1, ?_, ?_⟩
    · rw [List.mem_range]
      rw [z_at_eq] at h1
      exact (List.getElem?_eq_some_iff.mp h1).1
    · rw [h1]
      simp [← h2]
theorem z_Loc.has {A : Nat → Nat} {loc : List (Option Value)} {ls : Array Slot} {nL : Nat} (h : z_Loc A loc ls nL) : lv_has ls nL (z_as A loc) := by
  refine ⟨h.1, h.2.2.1, fun q hq => ?_⟩
  obtain ⟨v, h1, h2⟩ := z_as_in.mp hq
  rw [h2]
  exact h.2.2.2 _ _ h1
theorem z_val_cat (A : Nat → Nat) (v : Value) : (z_val A v).category = v.category := by cases v <;> rfl
theorem z_vals_cat (A : Nat → Nat) (l : List Value) : ((l.map (z_val A)).map fun v => v.category) = l.map fun v => v.category := by
  rw [List.map_map]
  exact List.map_congr_left fun v _ => z_val_cat A v
theorem z_Loc.put {A : Nat → Nat} {loc : List (Option Value)} {ls ls' : Array Slot} {nL i : Nat} {v : Value} (h : z_Loc A loc ls nL) (hi : i < loc.length) (hf : z_free loc i = true)
    (h' : lv_has ls' nL ((i, z_val A v) :: (z_as A loc).filter (fun q => !(q.1 == i) && !(q.1 + 1 == i && q.2.category == 2)))) : z_Loc A (loc.set i (some v)) ls' nL := by
  refine ⟨h'.1, by rw [List.length_set]; exact h.2.1, h'.2.1, fun j w hj => ?_⟩
  rw [z_at_eq, List.getElem?_set] at hj
  by_cases e : i = j
  · subst e
    rw [if_pos rfl, if_pos hi] at hj
    cases hj
    exact h'.2.2 (i, z_val A v) List.mem_cons_self
  · rw [if_neg e] at hj
    refine h'.2.2 (j, z_val A w) (List.mem_cons_of_mem _ (List.mem_filter.mpr ⟨z_as_in.mpr ⟨w, by rw [z_at_eq]; exact hj, rfl⟩, ?_⟩))
    have h1 : (j == i) = false := by simp; exact fun q => e q.symm
    have h2 : (j + 1 == i && (z_val A w).category == 2) = false := by
      rw [z_val_cat]
      by_cases hc : j + 1 = i
      · subst hc
        simp only [z_free, z_at_eq, hj] at hf
        cases w <;> simp [Value.category] at hf ⊢
      · simp [hc]
    simp only [h1, h2]
    rfl
theorem z_Loc.ag {n : Nat} {A A' : Nat → Nat} {loc : List (Option Value)} {ls : Array Slot} {nL : Nat} (h : z_Loc A loc ls nL) (ha : z_ag n A A') (hl : loc.all (z_loO n) = true) : z_Loc A' loc ls nL := by
  refine ⟨h.1, h.2.1, h.2.2.1, fun i v hi => ?_⟩
  rw [h.2.2.2 i v hi]
  rw [z_at_eq] at hi
  have := List.all_eq_true.mp hl _ (List.mem_of_getElem? hi)
  rw [z_val_ag ha (show z_lo n v = true from this)]
theorem z_sl_len (as : List Value) (A : Nat → Nat) : (lg_sl (as.map (z_val A))).length = (z_sl as).length := by
  induction as with
  | nil => rfl
  | cons v l ih =>
    simp only [lg_sl, List.map_cons, List.flatMap_cons, List.length_append, z_sl, z_val_cat] at ih ⊢
    by_cases c : v.category = 2
    · rw [if_pos c, if_pos c]
      simp only [List.length_cons, List.length_nil, ih]
      omega
    · rw [if_neg c, if_neg c]
      simp only [List.length_cons, List.length_nil, ih]
      omega
theorem z_sl_at (as : List Value) (A : Nat → Nat) : ∀ (k i : Nat) (v : Value), z_at (z_sl as) i = some (some v) → (k + i, z_val A v) ∈ lv_args k (as.map (z_val A)) := by
  induction as with
  | nil => intro k i v h; simp [z_sl, z_at] at h
  | cons w l ih =>
    intro k i v h
    simp only [List.map_cons, lv_args, z_val_cat]
    simp only [z_sl] at h
    by_cases c : w.category = 2
    · rw [if_pos c] at h ⊢
      match i, h with
      | 0, h =>
        simp only [z_at, Option.some.injEq] at h
        subst h
        exact List.mem_cons_self
      | 1, h => simp [z_at] at h
      | i + 2, h =>
        simp only [z_at] at h
        have := ih (k + 2) i v h
        rw [show k + 2 + i = k + (i + 2) by omega] at this
        exact List.mem_cons_of_mem _ this
    · rw [if_neg c] at h ⊢
      match i, h with
      | 0, h =>
        simp only [z_at, Option.some.injEq] at h
        subst h
        exact List.mem_cons_self
      | i + 1, h =>
        simp only [z_at] at h
        have := ih (k + 1) i v h
        rw [show k + 1 + i = k + (i + 1) by omega] at this
        exact List.mem_cons_of_mem _ this
theorem z_ent_at {as : List Value} {n i : Nat} {v : Value} (h : z_at (z_ent as n) i = some (some v)) : z_at (z_sl as) i = some (some v) := by
  unfold z_ent at h
  rw [z_at_eq] at h ⊢
  by_cases hi : i < (z_sl as).length
  · rw [List.getElem?_append_left hi] at h
    exact h
  · rw [List.getElem?_append_right (by omega), List.getElem?_replicate] at h
    split at h <;> simp at h
theorem z_ent_Loc (as : List Value) (A : Nat → Nat) {n : Nat} (h : (z_sl as).length ≤ n) : z_Loc A (z_ent as n) ((lg_sl (as.map (z_val A)) ++ List.replicate (n - (lg_sl (as.map (z_val A))).length) Slot.unset).toArray) n := by
  have hl := lv_entry (as.map (z_val A)) (n := n) (by rw [z_sl_len]; exact h)
  refine ⟨hl.1, by simp [z_ent]; omega, hl.2.1, fun i v hi => ?_⟩
  have := z_sl_at as A 0 i v (z_ent_at hi)
  rw [Nat.zero_add] at this
  exact hl.2.2 (i, z_val A v) this
/-- words that do not stay by themselves -/
def z_N (U : State) : Prop := (∀ q ∈ zFN, va_Nw (.fieldLinkNest q.1 q.2.1 q.2.2.1 q.2.2.2.1 q.2.2.2.2.1 q.2.2.2.2.2) U) ∧ (∀ q ∈ zMN, va_Nw (.methodLinkNest q.1 q.2.1 q.2.2.1 q.2.2.2) U) ∧ (∀ q ∈ zFW, va_Fw q.1 q.2.1 q.2.2 U) ∧ (∀ q ∈ zCN, va_Nw (.castable q zEl) U) ∧ va_AO zEl U
theorem z_N.warm {s U : State} (hW : s.WarmedH U.vm) (hf : ∀ q ∈ zFW, q.2.1.cls ≠ "java/lang/invoke/MethodHandle" ∧ q.2.1.cls ≠ "java/lang/invoke/VarHandle") (h : z_N s) : z_N U :=
  ⟨fun q hq => va_Nw.warmF hW (h.1 q hq), fun q hq => va_Nw.warmM hW (h.2.1 q hq), fun q hq => (h.2.2.1 q hq).moved (hf q hq) hW.alike, fun q hq => va_Nw.warmC hW (h.2.2.2.1 q hq), (h.2.2.2.2).moved hW.alike⟩
theorem z_N.same {s U : State} (hv : s.vm = U.vm) (hf : ∀ q ∈ zFW, q.2.1.cls ≠ "java/lang/invoke/MethodHandle" ∧ q.2.1.cls ≠ "java/lang/invoke/VarHandle") (h : z_N s) : z_N U :=
  ⟨fun q hq => va_Nw.same rfl hv (h.1 q hq), fun q hq => va_Nw.same rfl hv (h.2.1 q hq), fun q hq => (h.2.2.1 q hq).moved (hf q hq) (hv ▸ Vm.Alike.refl s.vm), fun q hq => va_Nw.same rfl hv (h.2.2.2.1 q hq), (h.2.2.2.2).moved (hv ▸ Vm.Alike.refl s.vm)⟩
/-- what the tables say of a kind of objects -/
def z_clsP (ci : Nat) (kd : List Nat) : Prop := ∃ (C : String) (T : u_T) (ty : Nat → FieldType), zCl[ci]? = some (C, T, kd.length) ∧ (∀ w ∈ u_ws C T kd.length, w ∈ zWS) ∧ (∀ k, k < kd.length → parseFieldDescriptor (T k).2.2.1 = some (ty k)) ∧
  (∀ a, a < kd.length → ∀ b, b < kd.length → a ≠ b → (T a).2.1 ≠ (T b).2.1) ∧
  (∀ k, k < kd.length → (kd.getD k 9 = 0 ∧ ty k = .int ∧ (T k).2.2.2 = false) ∨ (kd.getD k 9 = 1 ∧ ty k = .boolean ∧ (T k).2.2.2 = false) ∨ (kd.getD k 9 = 2 ∧ refKind (ty k) = true ∧ (T k).2.2.2 = false) ∨ (kd.getD k 9 = 3 ∧ refKind (ty k) = true ∧ (T k).2.2.2 = true ∧ (T k).1 = C)) ∧
  Cond.instantiable C kd.length ∈ zWS ∧ Cond.initialized C ∈ zWS
def z_fl (own : String) (idx ci k : Nat) : Prop := ∃ (C : String) (T : u_T) (N : Nat), zCl[ci]? = some (C, T, N) ∧ k < N ∧ (Cond.fieldLink own idx (T k).1 (T k).2.1 (T k).2.2.1 ∈ zWS ∨ ∃ host, (own, idx, (T k).1, (T k).2.1, (T k).2.2.1, host) ∈ zFN)
def z_fsP (own : String) (idx ci k : Nat) : Prop := ∃ (T : u_T) (N : Nat), zCl[ci]? = some (own, T, N) ∧ Cond.fieldLink own idx (T k).1 (T k).2.1 (T k).2.2.1 ∈ zWS
def z_olP (own : String) (idx : Nat) : Prop := Cond.methodLink own idx Lib.objectInit ∈ zWS ∧ Cond.instanceMethod Lib.objectInit ∈ zWS ∧ Cond.code Lib.objectInit ⟨#[0xb1]⟩ 1 none ∈ zWS
def z_k3P (own : String) (idx : Nat) : Prop := Cond.methodLink own idx arraycopyName ∈ zWS ∧ Cond.native arraycopyName ∈ zWS ∧ Cond.static arraycopyName ∈ zWS ∧ Cond.initialized "java/lang/System" ∈ zWS
def z_k4P (own : String) (idx : Nat) : Prop := Cond.methodLink own idx Lib.Math.max.name ∈ zWS ∧ Cond.static Lib.Math.max.name ∈ zWS ∧ Cond.initialized "java/lang/Math" ∈ zWS ∧ Cond.code Lib.Math.max.name Lib.Math.max.code 2 (some .int) ∈ zWS
def z_k5P (own : String) (idx : Nat) : Prop := Cond.methodLink own idx Lib.Math.min.name ∈ zWS ∧ Cond.static Lib.Math.min.name ∈ zWS ∧ Cond.initialized "java/lang/Math" ∈ zWS ∧ Cond.code Lib.Math.min.name Lib.Math.min.code 2 (some .int) ∈ zWS
/-- what the tables say of an instruction -/
def z_okE (own : String) (oc : Nat) (ini : Bool) (cc : ByteArray) (E : zE) : Prop := match E.2.1 with
  | .tableswitch d lo hi o => ∃ k, decode cc E.1 = .ok (.tableswitch d lo hi o, k)
  | i => decode cc E.1 = .ok (i, z_ln i) ∧ match i with
    | .goto o => (E.1 : Int) + o = E.2.2.1
    | .if_icmp _ o => (E.1 : Int) + o = E.2.2.1
    | .ifCond _ o => (E.1 : Int) + o = E.2.2.1
    | .getfield idx => z_fl own idx E.2.2.1 E.2.2.2
    | .putfield idx => z_fl own idx E.2.2.1 E.2.2.2 ∧ (∀ kd, z_at zCT E.2.2.1 = some kd → kd.getD E.2.2.2 9 = 3 → ini = true ∧ E.2.2.1 = oc ∧ z_fsP own idx E.2.2.1 E.2.2.2)
    | .ldc2_w idx => Cond.constantLong own idx (Int64.ofNat E.2.2.1) ∈ zWS
    | .new idx => ∃ C T N, zCl[E.2.2.1]? = some (C, T, N) ∧ Cond.classLink own idx C ∈ zWS
    | .newarray a => Cond.arrayClass (newarray.typeOf a) ∈ zWS
    | .anewarray idx => Cond.classLink own idx zEl ∈ zWS
    | .invokespecial idx => E.2.2.1 = 9 → z_olP own idx
    | .invokestatic idx => (E.2.2.1 = 3 → z_k3P own idx) ∧ (E.2.2.1 = 4 → z_k4P own idx) ∧ (E.2.2.1 = 5 → z_k5P own idx)
    | _ => True
abbrev z_ty (cA : Nat → ClassId) : List (ClassId × FieldType) := [(cA 0, .int), (cA 1, .boolean), (cA 2, .object zEl)]
/-- the laws of a memory -/
def z_laws {μ : Type} (gt : μ → Nat → Nat → Int32) (st : μ → Nat → Nat → Int32 → μ) (nw : μ → Nat → μ) (cp : μ → Nat → Nat → Nat → Nat → Nat → μ) : Prop :=
  (∀ m p k v, gt (st m p k v) = va_up (gt m) p (upd (gt m p) k v)) ∧ (∀ m p, gt (nw m p) = va_up (gt m) p (fun _ => 0)) ∧ (∀ m a sp b dp n, gt (cp m a sp b dp n) = va_up (gt m) b (va_cpy (gt m a) (gt m b) sp dp n))
def z_fix (p : Program) (s : State) (m : MethodId) (args : Array Value) (meth : Method) (c : Code) (own : String) (ini : Bool) (cc : ByteArray) (nL : Nat) : Prop :=
  p.tables.exec = Jvm.exec ∧ c.code = cc ∧ c.maxLocals = nL ∧ s.vm.findClass own = some m.cls ∧ (∀ w ∈ zWS, w.before args s = true) ∧ z_N s ∧ (ini = true → meth.name = "<init>")
def z_wd (D : va_G) (cA : Nat → ClassId) (F : Nat → Prop) (H0 : Heap) (A : Nat → Nat) (sh : List zS) (M : Nat → Nat → Int32) (H : Heap) (locs : List Loc) : Prop := va_P D zCl (z_W A cA sh M) H ∧ va_D F (z_W A cA sh M) ∧ va_S F H0 H locs
theorem z_fs_at {A : Nat → Nat} {kd : List Nat} {rs : List (Option Nat)} {f : Nat → Int32} {k q : Nat} (h : z_at kd k = some q) : (z_fs A kd rs f)[k]? = some (if q < 2 then .int (f k) else va_rf (((z_at rs k).getD none).map A)) := by
  rw [z_at_eq] at h
  unfold z_fs
  rw [List.getElem?_mapIdx, h]
  rfl
theorem z_fs_len {A : Nat → Nat} {kd : List Nat} {rs : List (Option Nat)} {f : Nat → Int32} : (z_fs A kd rs f).length = kd.length := by simp [z_fs]
theorem z_fs_seti {A : Nat → Nat} {kd : List Nat} {rs : List (Option Nat)} {f : Nat → Int32} {k q : Nat} {v : Int32} (h : z_at kd k = some q) (hq : q < 2) : z_fs A kd rs (upd f k v) = (z_fs A kd rs f).set k (.int v) := by
  have hk : k < kd.length := by
    rw [z_at_eq] at h
    exact (List.getElem?_eq_some_iff.mp h).1
  apply List.ext_getElem?
  intro j
  rw [List.getElem?_set]
  by_cases e : k = j
  · subst e
    rw [if_pos rfl, z_fs_at h, if_pos hq, if_pos (by rw [z_fs_len]; exact hk)]
    simp [upd]
  · rw [if_neg e]
    unfold z_fs
    rw [List.getElem?_mapIdx, List.getElem?_mapIdx]
    have : upd f k v j = f j := by unfold upd; rw [if_neg (fun q => e q.symm)]
    rw [this]
theorem z_fs_setr {A : Nat → Nat} {kd : List Nat} {rs : List (Option Nat)} {f : Nat → Int32} {k q p : Nat} (h : z_at kd k = some q) (hq : ¬ q < 2) (hr : k < rs.length) : z_fs A kd (rs.set k (some p)) f = (z_fs A kd rs f).set k (.ref (A p)) := by
  have hk : k < kd.length := by
    rw [z_at_eq] at h
    exact (List.getElem?_eq_some_iff.mp h).1
  apply List.ext_getElem?
  intro j
  rw [List.getElem?_set]
  by_cases e : k = j
  · subst e
    rw [if_pos rfl, z_fs_at h, if_neg hq, if_pos (by rw [z_fs_len]; exact hk), z_at_eq, List.getElem?_set, if_pos rfl, if_pos hr]
    rfl
  · rw [if_neg e]
    unfold z_fs
    rw [List.getElem?_mapIdx, List.getElem?_mapIdx]
    have : z_at (rs.set k (some p)) j = z_at rs j := by rw [z_at_eq, z_at_eq, List.getElem?_set, if_neg e]
    rw [this]
theorem z_rs_set {A : Nat → Nat} {rs : List (Option Nat)} {k p : Nat} (hr : k < rs.length) : (fun j => ((z_at (rs.set k (some p)) j).getD none).map A) = va_up (fun j => ((z_at rs j).getD none).map A) k (some (A p)) := by
  funext j
  unfold va_up
  rw [z_at_eq, List.getElem?_set]
  by_cases e : k = j
  · subst e
    rw [if_pos rfl, if_pos hr, if_pos rfl]
    rfl
  · rw [if_neg e, if_neg (fun q => e q.symm)]
    simp only [z_at_eq]
theorem z_rv_val (A : Nat → Nat) (r : Option Nat) : z_val A (z_rv r) = va_rf (r.map A) := by cases r <;> rfl
theorem z_cell0 (A : Nat → Nat) (cA : Nat → ClassId) (n : Nat) (rs : List (Option Nat)) (f : Nat → Int32) : z_cell A cA (0, n, rs) f = .inr (n, z_fs A ((z_at zCT n).getD []) rs f) := rfl
theorem z_cell1 (A : Nat → Nat) (cA : Nat → ClassId) (n : Nat) (rs : List (Option Nat)) (f : Nat → Int32) : z_cell A cA (1, n, rs) f = .inl (cA 0, n, .inl f) := rfl
theorem z_cell2 (A : Nat → Nat) (cA : Nat → ClassId) (n : Nat) (rs : List (Option Nat)) (f : Nat → Int32) : z_cell A cA (2, n, rs) f = .inl (cA 1, n, .inl f) := rfl
theorem z_cell3 (A : Nat → Nat) (cA : Nat → ClassId) (n : Nat) (rs : List (Option Nat)) (f : Nat → Int32) : z_cell A cA (3, n, rs) f = .inl (cA 2, n, .inr (.inr (.inr (.inr (fun j => ((z_at rs j).getD none).map A))))) := rfl
/-- a place of an array's kind is one of the list -/
theorem z_RA {D : va_G} {cl : List vw_C} {tys : List (ClassId × FieldType)} {s : State} {c1 c2 : ClassId} {ty : FieldType} {k : Nat} (hK : va_K D cl (tys ++ [(c2, ty)]) s) (h1 : tys[k]? = some (c1, ty)) : c2 = c1 := by
  have a := (hK.2 tys.length (c2, ty) (by simp)).2
  have b := (hK.2 k (c1, ty) (by rw [List.getElem?_append_left (List.getElem?_eq_some_iff.mp h1).1]; exact h1)).2
  cases ty with
  | object C =>
    obtain ⟨_, _, -, -, -, h4⟩ := a
    obtain ⟨_, _, -, -, -, h5⟩ := b
    exact Option.some.inj (h4.symm.trans h5)
  | _ =>
    exact Option.some.inj ((show s.vm.findClass _ = some c2 from a).symm.trans b)
