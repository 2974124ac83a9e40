/-! The same machine over whole numbers: every number is in the range of an int -/
abbrev iM : Type := Nat → Nat → Int
abbrev iV : Type := Int ⊕ Int64 ⊕ Nat
abbrev iI (a : Int) : iV := .inl a
abbrev iL (a : Int64) : iV := .inr (.inl a)
abbrev iP (a : Nat) : iV := .inr (.inr a)
def iR (a : Int) : Prop := -2147483648 ≤ a ∧ a < 2147483648
def i_v (v : iV) : Value := match v with
  | .inl a => .int (Int32.ofInt a)
  | .inr (.inl w) => .long w
  | .inr (.inr p) => .ref p
def i_ok (v : iV) : Prop := match v with
  | .inl a => iR a
  | _ => True
def i_okO (v : Option iV) : Prop := match v with
  | some w => i_ok w
  | none => True
def i_M (M : iM) : zM := fun c k => Int32.ofInt (M c k)
def i_MR (M : iM) : Prop := ∀ c k, iR (M c k)
def i_st (M : iM) (p k : Nat) (v : Int) : iM := va_up M p (va_up (M p) k v)
def i_cp (M : iM) (a sp b dp n : Nat) : iM := va_up M b (va_cpy (M a) (M b) sp dp n)
theorem iR_toInt {a : Int} (h : iR a) : (Int32.ofInt a).toInt = a := Int32.toInt_ofInt_of_le (by unfold iR at h; omega) (by unfold iR at h; omega)
theorem iR_nat {a : Int} (h : iR a) : (Int32.ofInt a).toNatClampNeg = a.toNat := Int32.toNatClampNeg_ofInt_of_le (by unfold iR at h; omega) (by unfold iR at h; omega)
theorem iR_lt {a b : Int} (ha : iR a) (hb : iR b) : Int32.ofInt a < Int32.ofInt b ↔ a < b := by rw [Int32.lt_iff_toInt_lt, iR_toInt ha, iR_toInt hb]
theorem iR_le {a b : Int} (ha : iR a) (hb : iR b) : Int32.ofInt a ≤ Int32.ofInt b ↔ a ≤ b := by rw [Int32.le_iff_toInt_le, iR_toInt ha, iR_toInt hb]
theorem iR_eq {a b : Int} (ha : iR a) (hb : iR b) : Int32.ofInt a = Int32.ofInt b ↔ a = b := by rw [← Int32.toInt_inj, iR_toInt ha, iR_toInt hb]
theorem iR_0 : iR 0 := by unfold iR; omega
theorem iR_ofI (x : Int32) : iR x.toInt := by
  have h1 := x.toInt_lt
  have h2 := x.le_toInt
  unfold iR
  omega
theorem i_M_st (M : iM) (p k : Nat) (v : Int) : f_st (i_M M) p k (Int32.ofInt v) = i_M (i_st M p k v) := by
  funext c j
  unfold f_st i_M i_st va_up upd
  by_cases h : c = p
  · subst h
    simp only [if_pos]
    by_cases h2 : j = k
    · simp [h2]
    · simp [h2]
  · simp [h]
theorem i_M_cp (M : iM) (a sp b dp n : Nat) : f_cp (i_M M) a sp b dp n = i_M (i_cp M a sp b dp n) := by
  funext c j
  unfold f_cp i_M i_cp va_up va_cpy
  by_cases h : c = b
  · subst h
    simp only [if_pos]
    by_cases h2 : dp ≤ j ∧ j < dp + n
    · simp [h2]
    · simp [h2]
  · simp [h]
theorem i_MR_st {M : iM} (h : i_MR M) {v : Int} (hv : iR v) (p k : Nat) : i_MR (i_st M p k v) := by
  intro c j
  unfold i_st va_up
  by_cases e1 : c = p
  · rw [if_pos e1]
    show iR (if j = k then v else M p j)
    by_cases e2 : j = k
    · rw [if_pos e2]; exact hv
    · rw [if_neg e2]; exact h _ _
  · rw [if_neg e1]; exact h _ _
theorem i_MR_cp {M : iM} (h : i_MR M) (a sp b dp n : Nat) : i_MR (i_cp M a sp b dp n) := by
  intro c j
  unfold i_cp va_up va_cpy
  by_cases e1 : c = b
  · rw [if_pos e1]
    show iR (if dp ≤ j ∧ j < dp + n then M a (sp + (j - dp)) else M b j)
    by_cases e2 : dp ≤ j ∧ j < dp + n
    · rw [if_pos e2]; exact h _ _
    · rw [if_neg e2]; exact h _ _
  · rw [if_neg e1]; exact h _ _
abbrev iS : Type := Option (Nat × (Nat → Int32))
def irun (scr : iS) (P : zP) (pc : Nat) (loc : List (Option iV)) (stk : List iV) (sh : List zS) (M : iM) (kc ks : Nat) (q : Option Int × List zS × iM) : Prop :=
  i_MR M → (∀ v ∈ loc, i_okO v) → (∀ v ∈ stk, i_ok v) → i_MR q.2.2 ∧ (∀ a, q.1 = some a → iR a) ∧
    z_run f_gt f_st f_nw f_cp scr P pc (loc.map (Option.map i_v)) (stk.map i_v) sh (i_M M) kc ks (q.1.map (fun a => Value.int (Int32.ofInt a)), q.2.1, i_M q.2.2)
theorem z_at_map {α β : Type} (f : α → β) (l : List α) (i : Nat) : z_at (l.map f) i = (z_at l i).map f := by
  rw [z_at_eq, z_at_eq, List.getElem?_map]
theorem i_loc {loc : List (Option iV)} {i : Nat} {v : iV} (h : z_at loc i = some (some v)) : z_at (loc.map (Option.map i_v)) i = some (some (i_v v)) := by
  rw [z_at_map, h]; rfl
theorem i_okl {loc : List (Option iV)} (ho : ∀ v ∈ loc, i_okO v) {i : Nat} {v : iV} (h : z_at loc i = some (some v)) : i_ok v := by
  rw [z_at_eq] at h
  exact ho _ (List.mem_of_getElem? h)
theorem i_set {loc : List (Option iV)} {i : Nat} {v : iV} : (loc.map (Option.map i_v)).set i (some (i_v v)) = (loc.set i (some v)).map (Option.map i_v) := by
  rw [List.map_set]; rfl
theorem i_oks {loc : List (Option iV)} (ho : ∀ v ∈ loc, i_okO v) {i : Nat} {v : iV} (hv : i_ok v) : ∀ w ∈ loc.set i (some v), i_okO w := by
  intro w hw
  rcases List.mem_or_eq_of_mem_set hw with h | h
  · exact ho w h
  · subst h; exact hv
/-- may the place be stored to -/
def i_free (loc : List (Option iV)) (i : Nat) : Bool := match i with
  | 0 => true
  | j + 1 => match z_at loc j with
    | some (some (.inr (.inl _))) => false
    | _ => true
theorem i_free_ok {loc : List (Option iV)} {i : Nat} (h : i_free loc i = true) : z_free (loc.map (Option.map i_v)) i = true := by
  cases i with
  | zero => rfl
  | succ j =>
    unfold z_free
    dsimp only
    rw [z_at_map]
    unfold i_free at h
    dsimp only at h
    rcases hz : z_at loc j with _ | w
    · rfl
    · rcases w with _ | w
      · rfl
      · rcases w with a | w | p
        · rfl
        · rw [hz] at h
          cases h
        · rfl
theorem z_obj_e {α : Type} {sh : List zS} {p ci : Nat} {rs : List (Option Nat)} {k : List (Option Nat) → Option α} (h : z_at sh p = some (0, ci, rs)) : z_obj sh p ci k = k rs := by
  unfold z_obj
  rw [h]
  show (if ci = ci then k rs else none) = _
  rw [if_pos rfl]
theorem z_ints_e {α : Type} {sh : List zS} {p n : Nat} {rs : List (Option Nat)} {k : Nat → Option α} (h : z_at sh p = some (1, n, rs)) : z_ints sh p k = k n := by
  unfold z_ints
  rw [h]
  rfl
theorem z_bools_e {α : Type} {sh : List zS} {p n : Nat} {rs : List (Option Nat)} {k : Nat → Option α} (h : z_at sh p = some (2, n, rs)) : z_bools sh p k = k n := by
  unfold z_bools
  rw [h]
  rfl
theorem z_refs_e {α : Type} {sh : List zS} {p n : Nat} {rs : List (Option Nat)} {k : Nat → List (Option Nat) → Option α} (h : z_at sh p = some (3, n, rs)) : z_refs sh p k = k n rs := by
  unfold z_refs
  rw [h]
  rfl
section IRules
variable {scr : iS} {P : zP} {pc : Nat} {loc : List (Option iV)} {stk : List iV} {sh : List zS} {M : iM} {kc ks : Nat} {q : Option Int × List zS × iM} {x y : Nat}
theorem i_step1 {E : zE} {pc' : Nat} {loc' : List (Option iV)} {stk' : List iV} {sh' : List zS} {M' : iM} (hE : z_find (z_cd P) pc = some E) (hk : z_kd E.2.1 E.2.2.1 = 3)
    (hs : i_MR M → (∀ v ∈ loc, i_okO v) → (∀ v ∈ stk, i_ok v) → (i_MR M' ∧ (∀ v ∈ loc', i_okO v) ∧ (∀ v ∈ stk', i_ok v)) ∧ z_step f_gt f_st f_nw f_cp (z_mc P) (z_ms P) scr E (loc.map (Option.map i_v)) (stk.map i_v) sh (i_M M) kc ks = some (pc', loc'.map (Option.map i_v), stk'.map i_v, sh', i_M M', kc, ks))
    (k : irun scr P pc' loc' stk' sh' M' kc ks q) : irun scr P pc loc stk sh M kc ks q := by
  intro h1 h2 h3
  obtain ⟨⟨a1, a2, a3⟩, hs⟩ := hs h1 h2 h3
  obtain ⟨b1, b2, b3⟩ := k a1 a2 a3
  exact ⟨b1, b2, z_run_step hE hk hs b3⟩
theorem i_c2 {a : iV} {l : List iV} (h : ∀ v ∈ a :: l, i_ok v) : i_ok a ∧ ∀ v ∈ l, i_ok v := ⟨h a List.mem_cons_self, fun v hv => h v (List.mem_cons_of_mem _ hv)⟩
theorem i_cc {a : iV} {l : List iV} (ha : i_ok a) (hl : ∀ v ∈ l, i_ok v) : ∀ v ∈ a :: l, i_ok v := List.forall_mem_cons.mpr ⟨ha, hl⟩
theorem i_iconst {n : Int} (hE : z_find (z_cd P) pc = some (pc, .iconst n, x, y)) (hn : iR n) (k : irun scr P (pc + 1) loc (iI n :: stk) sh M kc ks q) : irun scr P pc loc stk sh M kc ks q := by
  refine i_step1 hE rfl (fun h1 h2 h3 => ?_) k
  exact ⟨⟨h1, h2, i_cc hn h3⟩, rfl⟩
theorem i_bipush {n : Int} (hE : z_find (z_cd P) pc = some (pc, .bipush n, x, y)) (hn : iR n) (hc : (Int8.ofInt n).toInt32 = Int32.ofInt n) (k : irun scr P (pc + 2) loc (iI n :: stk) sh M kc ks q) : irun scr P pc loc stk sh M kc ks q := by
  refine i_step1 hE rfl (fun h1 h2 h3 => ?_) k
  refine ⟨⟨h1, h2, i_cc hn h3⟩, ?_⟩
  show some (pc + 2, _, Value.int (Int8.ofInt n).toInt32 :: _, _, _, _, _) = _
  rw [hc]
  rfl
theorem i_sipush {n : Int} (hE : z_find (z_cd P) pc = some (pc, .sipush n, x, y)) (hn : iR n) (hc : (Int16.ofInt n).toInt32 = Int32.ofInt n) (k : irun scr P (pc + 3) loc (iI n :: stk) sh M kc ks q) : irun scr P pc loc stk sh M kc ks q := by
  refine i_step1 hE rfl (fun h1 h2 h3 => ?_) k
  refine ⟨⟨h1, h2, i_cc hn h3⟩, ?_⟩
  show some (pc + 3, _, Value.int (Int16.ofInt n).toInt32 :: _, _, _, _, _) = _
  rw [hc]
  rfl
theorem i_ldc2 {n : Nat} (hE : z_find (z_cd P) pc = some (pc, .ldc2_w n, x, y)) (k : irun scr P (pc + 3) loc (iL (Int64.ofNat x) :: stk) sh M kc ks q) : irun scr P pc loc stk sh M kc ks q := by
  refine i_step1 hE rfl (fun h1 h2 h3 => ?_) k
  exact ⟨⟨h1, h2, i_cc trivial h3⟩, rfl⟩
theorem i_iload {n : Nat} {a : Int} (hE : z_find (z_cd P) pc = some (pc, .iload n, x, y)) (hl : z_at loc (n) = some (some (iI a))) (k : irun scr P (pc + 2) loc (iI a :: stk) sh M kc ks q) : irun scr P pc loc stk sh M kc ks q := by
  refine i_step1 hE rfl (fun h1 h2 h3 => ?_) k
  refine ⟨⟨h1, h2, i_cc (i_okl h2 hl) h3⟩, ?_⟩
  show z_ldi (loc.map (Option.map i_v)) (n) _ = _
  unfold z_ldi
  rw [i_loc hl]
  rfl
theorem i_iload_n {n : Fin 4} {a : Int} (hE : z_find (z_cd P) pc = some (pc, .iload_n n, x, y)) (hl : z_at loc (n.val) = some (some (iI a))) (k : irun scr P (pc + 1) loc (iI a :: stk) sh M kc ks q) : irun scr P pc loc stk sh M kc ks q := by
  refine i_step1 hE rfl (fun h1 h2 h3 => ?_) k
  refine ⟨⟨h1, h2, i_cc (i_okl h2 hl) h3⟩, ?_⟩
  show z_ldi (loc.map (Option.map i_v)) (n.val) _ = _
  unfold z_ldi
  rw [i_loc hl]
  rfl
theorem i_lload {n : Nat} {a : Int64} (hE : z_find (z_cd P) pc = some (pc, .lload n, x, y)) (hl : z_at loc (n) = some (some (iL a))) (k : irun scr P (pc + 2) loc (iL a :: stk) sh M kc ks q) : irun scr P pc loc stk sh M kc ks q := by
  refine i_step1 hE rfl (fun h1 h2 h3 => ?_) k
  refine ⟨⟨h1, h2, i_cc (i_okl h2 hl) h3⟩, ?_⟩
  show z_ldl (loc.map (Option.map i_v)) (n) _ = _
  unfold z_ldl
  rw [i_loc hl]
  rfl
theorem i_lload_n {n : Fin 4} {a : Int64} (hE : z_find (z_cd P) pc = some (pc, .lload_n n, x, y)) (hl : z_at loc (n.val) = some (some (iL a))) (k : irun scr P (pc + 1) loc (iL a :: stk) sh M kc ks q) : irun scr P pc loc stk sh M kc ks q := by
  refine i_step1 hE rfl (fun h1 h2 h3 => ?_) k
  refine ⟨⟨h1, h2, i_cc (i_okl h2 hl) h3⟩, ?_⟩
  show z_ldl (loc.map (Option.map i_v)) (n.val) _ = _
  unfold z_ldl
  rw [i_loc hl]
  rfl
theorem i_aload {n : Nat} {a : Nat} (hE : z_find (z_cd P) pc = some (pc, .aload n, x, y)) (hl : z_at loc (n) = some (some (iP a))) (k : irun scr P (pc + 2) loc (iP a :: stk) sh M kc ks q) : irun scr P pc loc stk sh M kc ks q := by
  refine i_step1 hE rfl (fun h1 h2 h3 => ?_) k
  refine ⟨⟨h1, h2, i_cc (i_okl h2 hl) h3⟩, ?_⟩
  show z_ldr (loc.map (Option.map i_v)) (n) _ = _
  unfold z_ldr
  rw [i_loc hl]
  rfl
theorem i_aload_n {n : Fin 4} {a : Nat} (hE : z_find (z_cd P) pc = some (pc, .aload_n n, x, y)) (hl : z_at loc (n.val) = some (some (iP a))) (k : irun scr P (pc + 1) loc (iP a :: stk) sh M kc ks q) : irun scr P pc loc stk sh M kc ks q := by
  refine i_step1 hE rfl (fun h1 h2 h3 => ?_) k
  refine ⟨⟨h1, h2, i_cc (i_okl h2 hl) h3⟩, ?_⟩
  show z_ldr (loc.map (Option.map i_v)) (n.val) _ = _
  unfold z_ldr
  rw [i_loc hl]
  rfl
theorem i_istore {n : Nat} {a : Int} (hE : z_find (z_cd P) pc = some (pc, .istore n, x, y)) (hl : (n) < loc.length) (hf : i_free loc (n) = true) (k : irun scr P (pc + 2) (loc.set (n) (some (iI a))) stk sh M kc ks q) : irun scr P pc loc (iI a :: stk) sh M kc ks q := by
  refine i_step1 hE rfl (fun h1 h2 h3 => ?_) k
  obtain ⟨h4, h3⟩ := i_c2 h3
  refine ⟨⟨h1, i_oks h2 h4, h3⟩, ?_⟩
  show z_sto (loc.map (Option.map i_v)) (n) (i_v (iI a)) (fun loc' => some (pc + 2, loc', stk.map i_v, sh, i_M M, kc, ks)) = _
  unfold z_sto
  rw [if_pos ⟨by rw [List.length_map]; exact hl, i_free_ok hf⟩, i_set]
theorem i_istore_n {n : Fin 4} {a : Int} (hE : z_find (z_cd P) pc = some (pc, .istore_n n, x, y)) (hl : (n.val) < loc.length) (hf : i_free loc (n.val) = true) (k : irun scr P (pc + 1) (loc.set (n.val) (some (iI a))) stk sh M kc ks q) : irun scr P pc loc (iI a :: stk) sh M kc ks q := by
  refine i_step1 hE rfl (fun h1 h2 h3 => ?_) k
  obtain ⟨h4, h3⟩ := i_c2 h3
  refine ⟨⟨h1, i_oks h2 h4, h3⟩, ?_⟩
  show z_sto (loc.map (Option.map i_v)) (n.val) (i_v (iI a)) (fun loc' => some (pc + 1, loc', stk.map i_v, sh, i_M M, kc, ks)) = _
  unfold z_sto
  rw [if_pos ⟨by rw [List.length_map]; exact hl, i_free_ok hf⟩, i_set]
theorem i_astore {n : Nat} {a : Nat} (hE : z_find (z_cd P) pc = some (pc, .astore n, x, y)) (hl : (n) < loc.length) (hf : i_free loc (n) = true) (k : irun scr P (pc + 2) (loc.set (n) (some (iP a))) stk sh M kc ks q) : irun scr P pc loc (iP a :: stk) sh M kc ks q := by
  refine i_step1 hE rfl (fun h1 h2 h3 => ?_) k
  obtain ⟨h4, h3⟩ := i_c2 h3
  refine ⟨⟨h1, i_oks h2 h4, h3⟩, ?_⟩
  show z_sto (loc.map (Option.map i_v)) (n) (i_v (iP a)) (fun loc' => some (pc + 2, loc', stk.map i_v, sh, i_M M, kc, ks)) = _
  unfold z_sto
  rw [if_pos ⟨by rw [List.length_map]; exact hl, i_free_ok hf⟩, i_set]
theorem i_astore_n {n : Fin 4} {a : Nat} (hE : z_find (z_cd P) pc = some (pc, .astore_n n, x, y)) (hl : (n.val) < loc.length) (hf : i_free loc (n.val) = true) (k : irun scr P (pc + 1) (loc.set (n.val) (some (iP a))) stk sh M kc ks q) : irun scr P pc loc (iP a :: stk) sh M kc ks q := by
  refine i_step1 hE rfl (fun h1 h2 h3 => ?_) k
  obtain ⟨h4, h3⟩ := i_c2 h3
  refine ⟨⟨h1, i_oks h2 h4, h3⟩, ?_⟩
  show z_sto (loc.map (Option.map i_v)) (n.val) (i_v (iP a)) (fun loc' => some (pc + 1, loc', stk.map i_v, sh, i_M M, kc, ks)) = _
  unfold z_sto
  rw [if_pos ⟨by rw [List.length_map]; exact hl, i_free_ok hf⟩, i_set]
theorem i_iinc {n : Nat} {c a : Int} (hE : z_find (z_cd P) pc = some (pc, .iinc n c, x, y)) (hv : z_at loc n = some (some (iI a))) (hr : iR (a + c)) (hl : n < loc.length) (hf : i_free loc n = true) (k : irun scr P (pc + 3) (loc.set n (some (iI (a + c)))) stk sh M kc ks q) : irun scr P pc loc stk sh M kc ks q := by
  refine i_step1 hE rfl (fun h1 h2 h3 => ?_) k
  refine ⟨⟨h1, i_oks h2 hr, h3⟩, ?_⟩
  show z_ldi (loc.map (Option.map i_v)) n _ = _
  unfold z_ldi
  rw [i_loc hv]
  show z_sto (loc.map (Option.map i_v)) n (.int (Int32.ofInt a + Int32.ofInt c)) _ = _
  unfold z_sto
  rw [if_pos ⟨by rw [List.length_map]; exact hl, i_free_ok hf⟩, ← Int32.ofInt_add]
  show some (pc + 3, (loc.map (Option.map i_v)).set n (some (i_v (iI (a + c)))), _, _, _, _, _) = _
  rw [i_set]
theorem i_iadd {a b : Int} (hE : z_find (z_cd P) pc = some (pc, .iadd, x, y)) (hr : iR (a + b)) (k : irun scr P (pc + 1) loc (iI (a + b) :: stk) sh M kc ks q) : irun scr P pc loc (iI b :: iI a :: stk) sh M kc ks q := by
  refine i_step1 hE rfl (fun h1 h2 h3 => ?_) k
  obtain ⟨h4, h3⟩ := i_c2 h3
  obtain ⟨h5, h3⟩ := i_c2 h3
  refine ⟨⟨h1, h2, i_cc hr h3⟩, ?_⟩
  show some (pc + 1, _, Value.int (Int32.ofInt a + Int32.ofInt b) :: _, _, _, _, _) = _
  rw [← Int32.ofInt_add]
  rfl
theorem i_isub {a b : Int} (hE : z_find (z_cd P) pc = some (pc, .isub, x, y)) (hr : iR (a - b)) (k : irun scr P (pc + 1) loc (iI (a - b) :: stk) sh M kc ks q) : irun scr P pc loc (iI b :: iI a :: stk) sh M kc ks q := by
  refine i_step1 hE rfl (fun h1 h2 h3 => ?_) k
  obtain ⟨h4, h3⟩ := i_c2 h3
  obtain ⟨h5, h3⟩ := i_c2 h3
  refine ⟨⟨h1, h2, i_cc hr h3⟩, ?_⟩
  show some (pc + 1, _, Value.int (Int32.ofInt a - Int32.ofInt b) :: _, _, _, _, _) = _
  rw [← Int32.ofInt_sub]
  rfl
theorem i_imul {a b : Int} (hE : z_find (z_cd P) pc = some (pc, .imul, x, y)) (hr : iR (a * b)) (k : irun scr P (pc + 1) loc (iI (a * b) :: stk) sh M kc ks q) : irun scr P pc loc (iI b :: iI a :: stk) sh M kc ks q := by
  refine i_step1 hE rfl (fun h1 h2 h3 => ?_) k
  obtain ⟨h4, h3⟩ := i_c2 h3
  obtain ⟨h5, h3⟩ := i_c2 h3
  refine ⟨⟨h1, h2, i_cc hr h3⟩, ?_⟩
  show some (pc + 1, _, Value.int (Int32.ofInt a * Int32.ofInt b) :: _, _, _, _, _) = _
  rw [← Int32.ofInt_mul]
  rfl
theorem i_div_eq {a b : Int} (ha : iR a) (hb : iR b) (h0 : 0 ≤ a) (h1 : 0 < b) : Int32.ofInt a / Int32.ofInt b = Int32.ofInt (a / b) ∧ iR (a / b) := by
  have hab : a / b ≤ a := Int.ediv_le_self b h0
  have hab0 : 0 ≤ a / b := Int.ediv_nonneg h0 (by omega)
  have hr : iR (a / b) := by unfold iR at *; omega
  refine ⟨?_, hr⟩
  rw [← Int32.toInt_inj, Int32.toInt_div_of_ne_right, iR_toInt ha, iR_toInt hb, iR_toInt hr, Int.tdiv_eq_ediv_of_nonneg h0]
  intro h
  have := congrArg Int32.toInt h
  rw [iR_toInt hb] at this
  have e : (-1 : Int32).toInt = -1 := by decide
  omega
theorem i_idiv {a b : Int} (hE : z_find (z_cd P) pc = some (pc, .idiv, x, y)) (h0 : 0 ≤ a) (h01 : 0 < b) (k : irun scr P (pc + 1) loc (iI (a / b) :: stk) sh M kc ks q) : irun scr P pc loc (iI b :: iI a :: stk) sh M kc ks q := by
  refine i_step1 hE rfl (fun h1 h2 h3 => ?_) k
  obtain ⟨h4, h3⟩ := i_c2 h3
  obtain ⟨h5, h3⟩ := i_c2 h3
  obtain ⟨e1, e2⟩ := i_div_eq h5 h4 h0 h01
  refine ⟨⟨h1, h2, i_cc e2 h3⟩, ?_⟩
  show (if Int32.ofInt b = 0 then none else some (pc + 1, _, Value.int (Int32.ofInt a / Int32.ofInt b) :: _, _, _, _, _)) = _
  rw [if_neg (fun h => by
    have := (iR_eq h4 iR_0).mp h
    omega), e1]
  rfl
theorem i_irem {a b : Int} (hE : z_find (z_cd P) pc = some (pc, .irem, x, y)) (h0 : 0 ≤ a) (h01 : 0 < b) (k : irun scr P (pc + 1) loc (iI (a % b) :: stk) sh M kc ks q) : irun scr P pc loc (iI b :: iI a :: stk) sh M kc ks q := by
  refine i_step1 hE rfl (fun h1 h2 h3 => ?_) k
  obtain ⟨h4, h3⟩ := i_c2 h3
  obtain ⟨h5, h3⟩ := i_c2 h3
  obtain ⟨e1, e2⟩ := i_div_eq h5 h4 h0 h01
  have hm0 : 0 ≤ a % b := Int.emod_nonneg _ (by omega)
  have hm1 : a % b < b := Int.emod_lt_of_pos _ h01
  have hm : iR (a % b) := by
    have h4' : iR b := h4
    unfold iR at h4' ⊢
    omega
  refine ⟨⟨h1, h2, i_cc hm h3⟩, ?_⟩
  show (if Int32.ofInt b = 0 then none else some (pc + 1, _, Value.int (Int32.ofInt a - Int32.ofInt a / Int32.ofInt b * Int32.ofInt b) :: _, _, _, _, _)) = _
  rw [if_neg (fun h => by
    have := (iR_eq h4 iR_0).mp h
    omega), e1, ← Int32.ofInt_mul, ← Int32.ofInt_sub, show a - a / b * b = a % b by rw [Int.emod_def, Int.mul_comm b]]
  rfl
def ix (a b : Int) : Int := ((a.toNat ^^^ b.toNat : Nat) : Int)
def io (a b : Int) : Int := ((a.toNat ||| b.toNat : Nat) : Int)
theorem i_nat {a : Int} (ha : iR a) (h0 : 0 ≤ a) : Int32.ofInt a = nI a.toNat ∧ a.toNat < 2 ^ 31 := by
  unfold iR at ha
  obtain ⟨n, rfl⟩ := Int.eq_ofNat_of_zero_le h0
  refine ⟨?_, by simp; omega⟩
  rw [show ((n : Int)).toNat = n by simp]
  exact Int32.ofInt_eq_ofNat
theorem i_ofN (n : Nat) : nI n = Int32.ofInt (n : Int) := Int32.ofInt_eq_ofNat.symm
theorem i_xor_eq {a b : Int} (ha : iR a) (hb : iR b) (h0 : 0 ≤ a) (h1 : 0 ≤ b) : Int32.ofInt a ^^^ Int32.ofInt b = Int32.ofInt (ix a b) ∧ iR (ix a b) := by
  obtain ⟨e1, l1⟩ := i_nat ha h0
  obtain ⟨e2, l2⟩ := i_nat hb h1
  have hx : a.toNat ^^^ b.toNat < 2 ^ 31 := Nat.xor_lt_two_pow l1 l2
  refine ⟨?_, by unfold iR ix; omega⟩
  rw [e1, e2]
  unfold ix
  rw [← i_ofN]
  apply Int32.toBitVec.inj
  apply BitVec.eq_of_toNat_eq
  show ((nI a.toNat).toBitVec ^^^ (nI b.toNat).toBitVec).toNat = _
  rw [BitVec.toNat_xor, pk_tn (by omega), pk_tn (by omega), pk_tn (by omega)]
theorem i_or_eq {a b : Int} (ha : iR a) (hb : iR b) (h0 : 0 ≤ a) (h1 : 0 ≤ b) : Int32.ofInt a ||| Int32.ofInt b = Int32.ofInt (io a b) ∧ iR (io a b) := by
  obtain ⟨e1, l1⟩ := i_nat ha h0
  obtain ⟨e2, l2⟩ := i_nat hb h1
  have hx : a.toNat ||| b.toNat < 2 ^ 31 := Nat.or_lt_two_pow l1 l2
  refine ⟨?_, by unfold iR io; omega⟩
  rw [e1, e2]
  unfold io
  rw [← i_ofN]
  apply Int32.toBitVec.inj
  apply BitVec.eq_of_toNat_eq
  show ((nI a.toNat).toBitVec ||| (nI b.toNat).toBitVec).toNat = _
  rw [BitVec.toNat_or, pk_tn (by omega), pk_tn (by omega), pk_tn (by omega)]
theorem i_and_eq {a m : Int} {j : Nat} (ha : iR a) (hm : m + 1 = 2 ^ j) (hj : j < 31) : Int32.ofInt a &&& Int32.ofInt m = Int32.ofInt (a % (m + 1)) ∧ iR (a % (m + 1)) := by
  have hp : (2 : Int) ^ j ≤ 2 ^ 30 := by
    have : (2 : Nat) ^ j ≤ 2 ^ 30 := Nat.pow_le_pow_right (by decide) (by omega)
    exact_mod_cast this
  have hp0 : (0 : Int) < 2 ^ j := by
    have : (0 : Nat) < 2 ^ j := Nat.two_pow_pos j
    exact_mod_cast this
  have h0 : 0 ≤ a % (m + 1) := Int.emod_nonneg _ (by omega)
  have h1 : a % (m + 1) < m + 1 := Int.emod_lt_of_pos _ (by omega)
  have hp30 : (2 : Int) ^ 30 = 1073741824 := by decide
  refine ⟨?_, by unfold iR; omega⟩
  have hmN : (Int32.ofInt m).toBitVec.toNat = 2 ^ j - 1 := by
    have hm' : m = (((2 ^ j - 1 : Nat)) : Int) := by
      have : (1 : Nat) ≤ 2 ^ j := Nat.one_le_two_pow
      push_cast [this]
      omega
    rw [hm', ← i_ofN]
    refine pk_tn ?_
    have : (2 : Nat) ^ j ≤ 2 ^ 30 := Nat.pow_le_pow_right (by decide) (by omega)
    have h30 : (2 : Nat) ^ 30 = 1073741824 := by decide
    omega
  rw [pk_and _ j hmN, i_ofN]
  congr 1
  rw [hm]
  have e : ((Int32.ofInt a).toBitVec.toNat : Int) = a % 2 ^ 32 := by
    show ((BitVec.ofInt 32 a).toNat : Int) = _
    rw [BitVec.toNat_ofInt]
    have : (0 : Int) ≤ a % ((2 ^ 32 : Nat) : Int) := Int.emod_nonneg _ (by decide)
    rw [Int.toNat_of_nonneg this]
    norm_cast
  push_cast
  rw [e]
  have hdv : (2 : Int) ^ j ∣ 2 ^ 32 := ⟨2 ^ (32 - j), by rw [← Int.pow_add]; congr 1; omega⟩
  exact Int.emod_emod_of_dvd a hdv
theorem i_ixor {a b : Int} (hE : z_find (z_cd P) pc = some (pc, .ixor, x, y)) (h0 : 0 ≤ a) (h01 : 0 ≤ b) (k : irun scr P (pc + 1) loc (iI (ix a b) :: stk) sh M kc ks q) : irun scr P pc loc (iI b :: iI a :: stk) sh M kc ks q := by
  refine i_step1 hE rfl (fun h1 h2 h3 => ?_) k
  obtain ⟨h4, h3⟩ := i_c2 h3
  obtain ⟨h5, h3⟩ := i_c2 h3
  obtain ⟨e1, e2⟩ := i_xor_eq h5 h4 h0 h01
  refine ⟨⟨h1, h2, i_cc e2 h3⟩, ?_⟩
  show some (pc + 1, _, Value.int (Int32.ofInt a ^^^ Int32.ofInt b) :: _, _, _, _, _) = _
  rw [e1]
  rfl
theorem i_ior {a b : Int} (hE : z_find (z_cd P) pc = some (pc, .ior, x, y)) (h0 : 0 ≤ a) (h01 : 0 ≤ b) (k : irun scr P (pc + 1) loc (iI (io a b) :: stk) sh M kc ks q) : irun scr P pc loc (iI b :: iI a :: stk) sh M kc ks q := by
  refine i_step1 hE rfl (fun h1 h2 h3 => ?_) k
  obtain ⟨h4, h3⟩ := i_c2 h3
  obtain ⟨h5, h3⟩ := i_c2 h3
  obtain ⟨e1, e2⟩ := i_or_eq h5 h4 h0 h01
  refine ⟨⟨h1, h2, i_cc e2 h3⟩, ?_⟩
  show some (pc + 1, _, Value.int (Int32.ofInt a ||| Int32.ofInt b) :: _, _, _, _, _) = _
  rw [e1]
  rfl
theorem i_iand {a m : Int} (j : Nat) (hE : z_find (z_cd P) pc = some (pc, .iand, x, y)) (hm : m + 1 = 2 ^ j) (hj : j < 31) (k : irun scr P (pc + 1) loc (iI (a % (m + 1)) :: stk) sh M kc ks q) : irun scr P pc loc (iI m :: iI a :: stk) sh M kc ks q := by
  refine i_step1 hE rfl (fun h1 h2 h3 => ?_) k
  obtain ⟨h4, h3⟩ := i_c2 h3
  obtain ⟨h5, h3⟩ := i_c2 h3
  obtain ⟨e1, e2⟩ := i_and_eq h5 hm hj
  refine ⟨⟨h1, h2, i_cc e2 h3⟩, ?_⟩
  show some (pc + 1, _, Value.int (Int32.ofInt a &&& Int32.ofInt m) :: _, _, _, _, _) = _
  rw [e1]
  rfl
theorem i_sh_amt {b : Int} (h0 : 0 ≤ b) (h1 : b < 32) : ((Int32.ofInt b &&& 31).toBitVec.smod 32).toNat = b.toNat := by
  obtain ⟨n, rfl⟩ := Int.eq_ofNat_of_zero_le h0
  have hn : n < 32 := by omega
  rw [show Int32.ofInt ((n : Nat) : Int) = nI n from (i_ofN n).symm, show ((n : Int)).toNat = n by simp]
  have : ∀ n, n < 32 → ((nI n &&& 31).toBitVec.smod 32).toNat = n := by decide +kernel
  exact this n hn
theorem i_shl_eq {a b : Int} (ha : iR a) (h0 : 0 ≤ a) (hb0 : 0 ≤ b) (hb : b < 32) (hr : iR (a * 2 ^ b.toNat)) : Int32.ofInt a <<< (Int32.ofInt b &&& 31) = Int32.ofInt (a * 2 ^ b.toNat) := by
  obtain ⟨e1, l1⟩ := i_nat ha h0
  obtain ⟨n, rfl⟩ := Int.eq_ofNat_of_zero_le h0
  have e3 : ((n : Int) * 2 ^ b.toNat) = ((n * 2 ^ b.toNat : Nat) : Int) := by push_cast; rfl
  rw [e3] at hr ⊢
  rw [show Int32.ofInt ((n : Nat) : Int) = nI n from (i_ofN n).symm, pk_shlN _ b.toNat (i_sh_amt hb0 hb) (by unfold iR at hr; omega), i_ofN]
theorem i_shr_eq {a b : Int} (ha : iR a) (hb0 : 0 ≤ b) (hb : b < 32) : Int32.ofInt a >>> (Int32.ofInt b &&& 31) = Int32.ofInt (a / 2 ^ b.toNat) ∧ iR (a / 2 ^ b.toNat) := by
  have hp : (0 : Int) < 2 ^ b.toNat := by
    have : (0 : Nat) < 2 ^ b.toNat := Nat.two_pow_pos _
    exact_mod_cast this
  have e := pk_shr (Int32.ofInt a) (Int32.ofInt b &&& 31) b.toNat (i_sh_amt hb0 hb)
  rw [iR_toInt ha, Int.shiftRight_eq_div_pow] at e
  have e' : (Int32.ofInt a >>> (Int32.ofInt b &&& 31)).toInt = a / 2 ^ b.toNat := by
    rw [e]
    norm_cast
  have hr : iR (a / 2 ^ b.toNat) := e' ▸ iR_ofI _
  refine ⟨?_, hr⟩
  rw [← Int32.toInt_inj, e', iR_toInt hr]
theorem i_ishl {a b : Int} (hE : z_find (z_cd P) pc = some (pc, .ishl, x, y)) (h0 : 0 ≤ a) (hb0 : 0 ≤ b) (hb : b < 32) (hr : iR (a * 2 ^ b.toNat)) (k : irun scr P (pc + 1) loc (iI (a * 2 ^ b.toNat) :: stk) sh M kc ks q) : irun scr P pc loc (iI b :: iI a :: stk) sh M kc ks q := by
  refine i_step1 hE rfl (fun h1 h2 h3 => ?_) k
  obtain ⟨h4, h3⟩ := i_c2 h3
  obtain ⟨h5, h3⟩ := i_c2 h3
  refine ⟨⟨h1, h2, i_cc hr h3⟩, ?_⟩
  show some (pc + 1, _, Value.int (Int32.ofInt a <<< (Int32.ofInt b &&& 31)) :: _, _, _, _, _) = _
  rw [i_shl_eq h5 h0 hb0 hb hr]
  rfl
theorem i_ishr {a b : Int} (hE : z_find (z_cd P) pc = some (pc, .ishr, x, y)) (hb0 : 0 ≤ b) (hb : b < 32) (k : irun scr P (pc + 1) loc (iI (a / 2 ^ b.toNat) :: stk) sh M kc ks q) : irun scr P pc loc (iI b :: iI a :: stk) sh M kc ks q := by
  refine i_step1 hE rfl (fun h1 h2 h3 => ?_) k
  obtain ⟨h4, h3⟩ := i_c2 h3
  obtain ⟨h5, h3⟩ := i_c2 h3
  obtain ⟨e1, e2⟩ := i_shr_eq h5 hb0 hb
  refine ⟨⟨h1, h2, i_cc e2 h3⟩, ?_⟩
  show some (pc + 1, _, Value.int (Int32.ofInt a >>> (Int32.ofInt b &&& 31)) :: _, _, _, _, _) = _
  rw [e1]
  rfl
theorem i_land {a b : Int64} (hE : z_find (z_cd P) pc = some (pc, .land, x, y)) (k : irun scr P (pc + 1) loc (iL (a &&& b) :: stk) sh M kc ks q) : irun scr P pc loc (iL b :: iL a :: stk) sh M kc ks q := by
  refine i_step1 hE rfl (fun h1 h2 h3 => ?_) k
  obtain ⟨h4, h3⟩ := i_c2 h3
  obtain ⟨h5, h3⟩ := i_c2 h3
  exact ⟨⟨h1, h2, i_cc trivial h3⟩, rfl⟩
theorem i_lor {a b : Int64} (hE : z_find (z_cd P) pc = some (pc, .lor, x, y)) (k : irun scr P (pc + 1) loc (iL (a ||| b) :: stk) sh M kc ks q) : irun scr P pc loc (iL b :: iL a :: stk) sh M kc ks q := by
  refine i_step1 hE rfl (fun h1 h2 h3 => ?_) k
  obtain ⟨h4, h3⟩ := i_c2 h3
  obtain ⟨h5, h3⟩ := i_c2 h3
  exact ⟨⟨h1, h2, i_cc trivial h3⟩, rfl⟩
theorem i_lshl {b : Int} {a : Int64} (hE : z_find (z_cd P) pc = some (pc, .lshl, x, y)) (k : irun scr P (pc + 1) loc (iL (a <<< ((Int32.ofInt b).toInt64 &&& 63)) :: stk) sh M kc ks q) : irun scr P pc loc (iI b :: iL a :: stk) sh M kc ks q := by
  refine i_step1 hE rfl (fun h1 h2 h3 => ?_) k
  obtain ⟨h4, h3⟩ := i_c2 h3
  obtain ⟨h5, h3⟩ := i_c2 h3
  exact ⟨⟨h1, h2, i_cc trivial h3⟩, rfl⟩
theorem i_lshr {b : Int} {a : Int64} (hE : z_find (z_cd P) pc = some (pc, .lshr, x, y)) (k : irun scr P (pc + 1) loc (iL (a >>> ((Int32.ofInt b).toInt64 &&& 63)) :: stk) sh M kc ks q) : irun scr P pc loc (iI b :: iL a :: stk) sh M kc ks q := by
  refine i_step1 hE rfl (fun h1 h2 h3 => ?_) k
  obtain ⟨h4, h3⟩ := i_c2 h3
  obtain ⟨h5, h3⟩ := i_c2 h3
  exact ⟨⟨h1, h2, i_cc trivial h3⟩, rfl⟩
theorem i_lushr {b : Int} {a : Int64} (hE : z_find (z_cd P) pc = some (pc, .lushr, x, y)) (k : irun scr P (pc + 1) loc (iL ((a.toUInt64 >>> ((Int32.ofInt b).toInt64.toUInt64 &&& Int64.toUInt64 63)).toInt64) :: stk) sh M kc ks q) : irun scr P pc loc (iI b :: iL a :: stk) sh M kc ks q := by
  refine i_step1 hE rfl (fun h1 h2 h3 => ?_) k
  obtain ⟨h4, h3⟩ := i_c2 h3
  obtain ⟨h5, h3⟩ := i_c2 h3
  exact ⟨⟨h1, h2, i_cc trivial h3⟩, rfl⟩
theorem i_i2l {a : Int} (hE : z_find (z_cd P) pc = some (pc, .i2l, x, y)) (k : irun scr P (pc + 1) loc (iL (Int32.ofInt a).toInt64 :: stk) sh M kc ks q) : irun scr P pc loc (iI a :: stk) sh M kc ks q := by
  refine i_step1 hE rfl (fun h1 h2 h3 => ?_) k
  obtain ⟨h4, h3⟩ := i_c2 h3
  exact ⟨⟨h1, h2, i_cc trivial h3⟩, rfl⟩
theorem i_l2i {a : Int64} (hE : z_find (z_cd P) pc = some (pc, .l2i, x, y)) (k : irun scr P (pc + 1) loc (iI a.toInt32.toInt :: stk) sh M kc ks q) : irun scr P pc loc (iL a :: stk) sh M kc ks q := by
  refine i_step1 hE rfl (fun h1 h2 h3 => ?_) k
  obtain ⟨h4, h3⟩ := i_c2 h3
  refine ⟨⟨h1, h2, i_cc (iR_ofI _) h3⟩, ?_⟩
  show some (pc + 1, _, Value.int a.toInt32 :: _, _, _, _, _) = some (pc + 1, _, Value.int (Int32.ofInt a.toInt32.toInt) :: _, _, _, _, _)
  rw [Int32.ofInt_toInt]
theorem i_pop {a : Int} (hE : z_find (z_cd P) pc = some (pc, .pop, x, y)) (k : irun scr P (pc + 1) loc stk sh M kc ks q) : irun scr P pc loc (iI a :: stk) sh M kc ks q := by
  refine i_step1 hE rfl (fun h1 h2 h3 => ?_) k
  obtain ⟨h4, h3⟩ := i_c2 h3
  exact ⟨⟨h1, h2, h3⟩, rfl⟩
theorem i_popr {a : Nat} (hE : z_find (z_cd P) pc = some (pc, .pop, x, y)) (k : irun scr P (pc + 1) loc stk sh M kc ks q) : irun scr P pc loc (iP a :: stk) sh M kc ks q := by
  refine i_step1 hE rfl (fun h1 h2 h3 => ?_) k
  obtain ⟨h4, h3⟩ := i_c2 h3
  exact ⟨⟨h1, h2, h3⟩, rfl⟩
theorem i_dup {a : Int} (hE : z_find (z_cd P) pc = some (pc, .dup, x, y)) (k : irun scr P (pc + 1) loc (iI a :: iI a :: stk) sh M kc ks q) : irun scr P pc loc (iI a :: stk) sh M kc ks q := by
  refine i_step1 hE rfl (fun h1 h2 h3 => ?_) k
  obtain ⟨h4, h3⟩ := i_c2 h3
  exact ⟨⟨h1, h2, i_cc h4 (i_cc h4 h3)⟩, rfl⟩
theorem i_dupr {a : Nat} (hE : z_find (z_cd P) pc = some (pc, .dup, x, y)) (k : irun scr P (pc + 1) loc (iP a :: iP a :: stk) sh M kc ks q) : irun scr P pc loc (iP a :: stk) sh M kc ks q := by
  refine i_step1 hE rfl (fun h1 h2 h3 => ?_) k
  obtain ⟨h4, h3⟩ := i_c2 h3
  exact ⟨⟨h1, h2, i_cc h4 (i_cc h4 h3)⟩, rfl⟩
theorem i_dup2 {a : Int} {b : Nat} (hE : z_find (z_cd P) pc = some (pc, .dup2, x, y)) (k : irun scr P (pc + 1) loc (iI a :: iP b :: iI a :: iP b :: stk) sh M kc ks q) : irun scr P pc loc (iI a :: iP b :: stk) sh M kc ks q := by
  refine i_step1 hE rfl (fun h1 h2 h3 => ?_) k
  obtain ⟨h4, h3⟩ := i_c2 h3
  obtain ⟨h5, h3⟩ := i_c2 h3
  exact ⟨⟨h1, h2, i_cc h4 (i_cc h5 (i_cc h4 (i_cc h5 h3)))⟩, rfl⟩
theorem i_goto {o : Int} (hE : z_find (z_cd P) pc = some (pc, .goto o, x, y)) (k : irun scr P (x) loc stk sh M kc ks q) : irun scr P pc loc stk sh M kc ks q := by
  refine i_step1 hE rfl (fun h1 h2 h3 => ?_) k
  exact ⟨⟨h1, h2, h3⟩, rfl⟩
theorem i_icmp_eq_t {a b o : Int} (hE : z_find (z_cd P) pc = some (pc, .if_icmp .eq o, x, y)) (hc0 : a = b) (k : irun scr P (x) loc stk sh M kc ks q) : irun scr P pc loc (iI b :: iI a :: stk) sh M kc ks q := by
  refine i_step1 hE rfl (fun h1 h2 h3 => ?_) k
  obtain ⟨h4, h3⟩ := i_c2 h3
  obtain ⟨h5, h3⟩ := i_c2 h3
  refine ⟨⟨h1, h2, h3⟩, ?_⟩
  have hc : z_cmp (.if_icmp .eq o) (Int32.ofInt a) (Int32.ofInt b) = true := by
    have hh : (Int32.ofInt a = Int32.ofInt b) ↔ (a = b) := iR_eq h5 h4
    simp only [z_cmp]
    exact decide_eq_true (hh.mpr hc0)
  show some (if z_cmp (.if_icmp .eq o) (Int32.ofInt a) (Int32.ofInt b) then x else pc + 3, _, _, _, _, _, _) = _
  rw [hc]
  rfl
theorem i_if_eq_t {a o : Int} (hE : z_find (z_cd P) pc = some (pc, .ifCond .eq o, x, y)) (hc0 : a = 0) (k : irun scr P (x) loc stk sh M kc ks q) : irun scr P pc loc (iI a :: stk) sh M kc ks q := by
  refine i_step1 hE rfl (fun h1 h2 h3 => ?_) k
  have h4 : iR 0 := iR_0
  obtain ⟨h5, h3⟩ := i_c2 h3
  refine ⟨⟨h1, h2, h3⟩, ?_⟩
  have hc : z_cmp (.ifCond .eq o) (Int32.ofInt a) (Int32.ofInt 0) = true := by
    have hh : (Int32.ofInt a = Int32.ofInt 0) ↔ (a = 0) := iR_eq h5 h4
    simp only [z_cmp]
    exact decide_eq_true (hh.mpr hc0)
  show some (if z_cmp (.ifCond .eq o) (Int32.ofInt a) 0 then x else pc + 3, _, _, _, _, _, _) = _
  rw [show (0 : Int32) = Int32.ofInt 0 from rfl, hc]
  rfl
theorem i_icmp_eq_f {a b o : Int} (hE : z_find (z_cd P) pc = some (pc, .if_icmp .eq o, x, y)) (hc0 : ¬ a = b) (k : irun scr P (pc + 3) loc stk sh M kc ks q) : irun scr P pc loc (iI b :: iI a :: stk) sh M kc ks q := by
  refine i_step1 hE rfl (fun h1 h2 h3 => ?_) k
  obtain ⟨h4, h3⟩ := i_c2 h3
  obtain ⟨h5, h3⟩ := i_c2 h3
  refine ⟨⟨h1, h2, h3⟩, ?_⟩
  have hc : z_cmp (.if_icmp .eq o) (Int32.ofInt a) (Int32.ofInt b) = false := by
    have hh : (Int32.ofInt a = Int32.ofInt b) ↔ (a = b) := iR_eq h5 h4
    simp only [z_cmp]
    exact decide_eq_false (fun h => absurd (hh.mp h) (by omega))
  show some (if z_cmp (.if_icmp .eq o) (Int32.ofInt a) (Int32.ofInt b) then x else pc + 3, _, _, _, _, _, _) = _
  rw [hc]
  rfl
theorem i_if_eq_f {a o : Int} (hE : z_find (z_cd P) pc = some (pc, .ifCond .eq o, x, y)) (hc0 : ¬ a = 0) (k : irun scr P (pc + 3) loc stk sh M kc ks q) : irun scr P pc loc (iI a :: stk) sh M kc ks q := by
  refine i_step1 hE rfl (fun h1 h2 h3 => ?_) k
  have h4 : iR 0 := iR_0
  obtain ⟨h5, h3⟩ := i_c2 h3
  refine ⟨⟨h1, h2, h3⟩, ?_⟩
  have hc : z_cmp (.ifCond .eq o) (Int32.ofInt a) (Int32.ofInt 0) = false := by
    have hh : (Int32.ofInt a = Int32.ofInt 0) ↔ (a = 0) := iR_eq h5 h4
    simp only [z_cmp]
    exact decide_eq_false (fun h => absurd (hh.mp h) (by omega))
  show some (if z_cmp (.ifCond .eq o) (Int32.ofInt a) 0 then x else pc + 3, _, _, _, _, _, _) = _
  rw [show (0 : Int32) = Int32.ofInt 0 from rfl, hc]
  rfl
theorem i_icmp_ne_t {a b o : Int} (hE : z_find (z_cd P) pc = some (pc, .if_icmp .ne o, x, y)) (hc0 : ¬ a = b) (k : irun scr P (x) loc stk sh M kc ks q) : irun scr P pc loc (iI b :: iI a :: stk) sh M kc ks q := by
  refine i_step1 hE rfl (fun h1 h2 h3 => ?_) k
  obtain ⟨h4, h3⟩ := i_c2 h3
  obtain ⟨h5, h3⟩ := i_c2 h3
  refine ⟨⟨h1, h2, h3⟩, ?_⟩
  have hc : z_cmp (.if_icmp .ne o) (Int32.ofInt a) (Int32.ofInt b) = true := by
    have hh : (¬ Int32.ofInt a = Int32.ofInt b) ↔ (¬ a = b) := not_congr (iR_eq h5 h4)
    simp only [z_cmp]
    rw [decide_eq_false (hh.mpr hc0)]
    rfl
  show some (if z_cmp (.if_icmp .ne o) (Int32.ofInt a) (Int32.ofInt b) then x else pc + 3, _, _, _, _, _, _) = _
  rw [hc]
  rfl
theorem i_if_ne_t {a o : Int} (hE : z_find (z_cd P) pc = some (pc, .ifCond .ne o, x, y)) (hc0 : ¬ a = 0) (k : irun scr P (x) loc stk sh M kc ks q) : irun scr P pc loc (iI a :: stk) sh M kc ks q := by
  refine i_step1 hE rfl (fun h1 h2 h3 => ?_) k
  have h4 : iR 0 := iR_0
  obtain ⟨h5, h3⟩ := i_c2 h3
  refine ⟨⟨h1, h2, h3⟩, ?_⟩
  have hc : z_cmp (.ifCond .ne o) (Int32.ofInt a) (Int32.ofInt 0) = true := by
    have hh : (¬ Int32.ofInt a = Int32.ofInt 0) ↔ (¬ a = 0) := not_congr (iR_eq h5 h4)
    simp only [z_cmp]
    rw [decide_eq_false (hh.mpr hc0)]
    rfl
  show some (if z_cmp (.ifCond .ne o) (Int32.ofInt a) 0 then x else pc + 3, _, _, _, _, _, _) = _
  rw [show (0 : Int32) = Int32.ofInt 0 from rfl, hc]
  rfl
theorem i_icmp_ne_f {a b o : Int} (hE : z_find (z_cd P) pc = some (pc, .if_icmp .ne o, x, y)) (hc0 : a = b) (k : irun scr P (pc + 3) loc stk sh M kc ks q) : irun scr P pc loc (iI b :: iI a :: stk) sh M kc ks q := by
  refine i_step1 hE rfl (fun h1 h2 h3 => ?_) k
  obtain ⟨h4, h3⟩ := i_c2 h3
  obtain ⟨h5, h3⟩ := i_c2 h3
  refine ⟨⟨h1, h2, h3⟩, ?_⟩
  have hc : z_cmp (.if_icmp .ne o) (Int32.ofInt a) (Int32.ofInt b) = false := by
    have hh : (¬ Int32.ofInt a = Int32.ofInt b) ↔ (¬ a = b) := not_congr (iR_eq h5 h4)
    simp only [z_cmp]
    rw [decide_eq_true (Decidable.not_not.mp (fun h => (hh.mp h) hc0))]
    rfl
  show some (if z_cmp (.if_icmp .ne o) (Int32.ofInt a) (Int32.ofInt b) then x else pc + 3, _, _, _, _, _, _) = _
  rw [hc]
  rfl
theorem i_if_ne_f {a o : Int} (hE : z_find (z_cd P) pc = some (pc, .ifCond .ne o, x, y)) (hc0 : a = 0) (k : irun scr P (pc + 3) loc stk sh M kc ks q) : irun scr P pc loc (iI a :: stk) sh M kc ks q := by
  refine i_step1 hE rfl (fun h1 h2 h3 => ?_) k
  have h4 : iR 0 := iR_0
  obtain ⟨h5, h3⟩ := i_c2 h3
  refine ⟨⟨h1, h2, h3⟩, ?_⟩
  have hc : z_cmp (.ifCond .ne o) (Int32.ofInt a) (Int32.ofInt 0) = false := by
    have hh : (¬ Int32.ofInt a = Int32.ofInt 0) ↔ (¬ a = 0) := not_congr (iR_eq h5 h4)
    simp only [z_cmp]
    rw [decide_eq_true (Decidable.not_not.mp (fun h => (hh.mp h) hc0))]
    rfl
  show some (if z_cmp (.ifCond .ne o) (Int32.ofInt a) 0 then x else pc + 3, _, _, _, _, _, _) = _
  rw [show (0 : Int32) = Int32.ofInt 0 from rfl, hc]
  rfl
theorem i_icmp_lt_t {a b o : Int} (hE : z_find (z_cd P) pc = some (pc, .if_icmp .lt o, x, y)) (hc0 : a < b) (k : irun scr P (x) loc stk sh M kc ks q) : irun scr P pc loc (iI b :: iI a :: stk) sh M kc ks q := by
  refine i_step1 hE rfl (fun h1 h2 h3 => ?_) k
  obtain ⟨h4, h3⟩ := i_c2 h3
  obtain ⟨h5, h3⟩ := i_c2 h3
  refine ⟨⟨h1, h2, h3⟩, ?_⟩
  have hc : z_cmp (.if_icmp .lt o) (Int32.ofInt a) (Int32.ofInt b) = true := by
    have hh : (Int32.ofInt a < Int32.ofInt b) ↔ (a < b) := iR_lt h5 h4
    simp only [z_cmp]
    exact decide_eq_true (hh.mpr hc0)
  show some (if z_cmp (.if_icmp .lt o) (Int32.ofInt a) (Int32.ofInt b) then x else pc + 3, _, _, _, _, _, _) = _
  rw [hc]
  rfl
theorem i_if_lt_t {a o : Int} (hE : z_find (z_cd P) pc = some (pc, .ifCond .lt o, x, y)) (hc0 : a < 0) (k : irun scr P (x) loc stk sh M kc ks q) : irun scr P pc loc (iI a :: stk) sh M kc ks q := by
  refine i_step1 hE rfl (fun h1 h2 h3 => ?_) k
  have h4 : iR 0 := iR_0
  obtain ⟨h5, h3⟩ := i_c2 h3
  refine ⟨⟨h1, h2, h3⟩, ?_⟩
  have hc : z_cmp (.ifCond .lt o) (Int32.ofInt a) (Int32.ofInt 0) = true := by
    have hh : (Int32.ofInt a < Int32.ofInt 0) ↔ (a < 0) := iR_lt h5 h4
    simp only [z_cmp]
    exact decide_eq_true (hh.mpr hc0)
  show some (if z_cmp (.ifCond .lt o) (Int32.ofInt a) 0 then x else pc + 3, _, _, _, _, _, _) = _
  rw [show (0 : Int32) = Int32.ofInt 0 from rfl, hc]
  rfl
theorem i_icmp_lt_f {a b o : Int} (hE : z_find (z_cd P) pc = some (pc, .if_icmp .lt o, x, y)) (hc0 : b ≤ a) (k : irun scr P (pc + 3) loc stk sh M kc ks q) : irun scr P pc loc (iI b :: iI a :: stk) sh M kc ks q := by
  refine i_step1 hE rfl (fun h1 h2 h3 => ?_) k
  obtain ⟨h4, h3⟩ := i_c2 h3
  obtain ⟨h5, h3⟩ := i_c2 h3
  refine ⟨⟨h1, h2, h3⟩, ?_⟩
  have hc : z_cmp (.if_icmp .lt o) (Int32.ofInt a) (Int32.ofInt b) = false := by
    have hh : (Int32.ofInt a < Int32.ofInt b) ↔ (a < b) := iR_lt h5 h4
    simp only [z_cmp]
    exact decide_eq_false (fun h => absurd (hh.mp h) (by omega))
  show some (if z_cmp (.if_icmp .lt o) (Int32.ofInt a) (Int32.ofInt b) then x else pc + 3, _, _, _, _, _, _) = _
  rw [hc]
  rfl
theorem i_if_lt_f {a o : Int} (hE : z_find (z_cd P) pc = some (pc, .ifCond .lt o, x, y)) (hc0 : 0 ≤ a) (k : irun scr P (pc + 3) loc stk sh M kc ks q) : irun scr P pc loc (iI a :: stk) sh M kc ks q := by
  refine i_step1 hE rfl (fun h1 h2 h3 => ?_) k
  have h4 : iR 0 := iR_0
  obtain ⟨h5, h3⟩ := i_c2 h3
  refine ⟨⟨h1, h2, h3⟩, ?_⟩
  have hc : z_cmp (.ifCond .lt o) (Int32.ofInt a) (Int32.ofInt 0) = false := by
    have hh : (Int32.ofInt a < Int32.ofInt 0) ↔ (a < 0) := iR_lt h5 h4
    simp only [z_cmp]
    exact decide_eq_false (fun h => absurd (hh.mp h) (by omega))
  show some (if z_cmp (.ifCond .lt o) (Int32.ofInt a) 0 then x else pc + 3, _, _, _, _, _, _) = _
  rw [show (0 : Int32) = Int32.ofInt 0 from rfl, hc]
  rfl
theorem i_icmp_ge_t {a b o : Int} (hE : z_find (z_cd P) pc = some (pc, .if_icmp .ge o, x, y)) (hc0 : b ≤ a) (k : irun scr P (x) loc stk sh M kc ks q) : irun scr P pc loc (iI b :: iI a :: stk) sh M kc ks q := by
  refine i_step1 hE rfl (fun h1 h2 h3 => ?_) k
  obtain ⟨h4, h3⟩ := i_c2 h3
  obtain ⟨h5, h3⟩ := i_c2 h3
  refine ⟨⟨h1, h2, h3⟩, ?_⟩
  have hc : z_cmp (.if_icmp .ge o) (Int32.ofInt a) (Int32.ofInt b) = true := by
    have hh : (Int32.ofInt b ≤ Int32.ofInt a) ↔ (b ≤ a) := iR_le h4 h5
    simp only [z_cmp]
    exact decide_eq_true (hh.mpr hc0)
  show some (if z_cmp (.if_icmp .ge o) (Int32.ofInt a) (Int32.ofInt b) then x else pc + 3, _, _, _, _, _, _) = _
  rw [hc]
  rfl
theorem i_if_ge_t {a o : Int} (hE : z_find (z_cd P) pc = some (pc, .ifCond .ge o, x, y)) (hc0 : 0 ≤ a) (k : irun scr P (x) loc stk sh M kc ks q) : irun scr P pc loc (iI a :: stk) sh M kc ks q := by
  refine i_step1 hE rfl (fun h1 h2 h3 => ?_) k
  have h4 : iR 0 := iR_0
  obtain ⟨h5, h3⟩ := i_c2 h3
  refine ⟨⟨h1, h2, h3⟩, ?_⟩
  have hc : z_cmp (.ifCond .ge o) (Int32.ofInt a) (Int32.ofInt 0) = true := by
    have hh : (Int32.ofInt 0 ≤ Int32.ofInt a) ↔ (0 ≤ a) := iR_le h4 h5
    simp only [z_cmp]
    exact decide_eq_true (hh.mpr hc0)
  show some (if z_cmp (.ifCond .ge o) (Int32.ofInt a) 0 then x else pc + 3, _, _, _, _, _, _) = _
  rw [show (0 : Int32) = Int32.ofInt 0 from rfl, hc]
  rfl
theorem i_icmp_ge_f {a b o : Int} (hE : z_find (z_cd P) pc = some (pc, .if_icmp .ge o, x, y)) (hc0 : a < b) (k : irun scr P (pc + 3) loc stk sh M kc ks q) : irun scr P pc loc (iI b :: iI a :: stk) sh M kc ks q := by
  refine i_step1 hE rfl (fun h1 h2 h3 => ?_) k
  obtain ⟨h4, h3⟩ := i_c2 h3
  obtain ⟨h5, h3⟩ := i_c2 h3
  refine ⟨⟨h1, h2, h3⟩, ?_⟩
  have hc : z_cmp (.if_icmp .ge o) (Int32.ofInt a) (Int32.ofInt b) = false := by
    have hh : (Int32.ofInt b ≤ Int32.ofInt a) ↔ (b ≤ a) := iR_le h4 h5
    simp only [z_cmp]
    exact decide_eq_false (fun h => absurd (hh.mp h) (by omega))
  show some (if z_cmp (.if_icmp .ge o) (Int32.ofInt a) (Int32.ofInt b) then x else pc + 3, _, _, _, _, _, _) = _
  rw [hc]
  rfl
theorem i_if_ge_f {a o : Int} (hE : z_find (z_cd P) pc = some (pc, .ifCond .ge o, x, y)) (hc0 : a < 0) (k : irun scr P (pc + 3) loc stk sh M kc ks q) : irun scr P pc loc (iI a :: stk) sh M kc ks q := by
  refine i_step1 hE rfl (fun h1 h2 h3 => ?_) k
  have h4 : iR 0 := iR_0
  obtain ⟨h5, h3⟩ := i_c2 h3
  refine ⟨⟨h1, h2, h3⟩, ?_⟩
  have hc : z_cmp (.ifCond .ge o) (Int32.ofInt a) (Int32.ofInt 0) = false := by
    have hh : (Int32.ofInt 0 ≤ Int32.ofInt a) ↔ (0 ≤ a) := iR_le h4 h5
    simp only [z_cmp]
    exact decide_eq_false (fun h => absurd (hh.mp h) (by omega))
  show some (if z_cmp (.ifCond .ge o) (Int32.ofInt a) 0 then x else pc + 3, _, _, _, _, _, _) = _
  rw [show (0 : Int32) = Int32.ofInt 0 from rfl, hc]
  rfl
theorem i_icmp_gt_t {a b o : Int} (hE : z_find (z_cd P) pc = some (pc, .if_icmp .gt o, x, y)) (hc0 : b < a) (k : irun scr P (x) loc stk sh M kc ks q) : irun scr P pc loc (iI b :: iI a :: stk) sh M kc ks q := by
  refine i_step1 hE rfl (fun h1 h2 h3 => ?_) k
  obtain ⟨h4, h3⟩ := i_c2 h3
  obtain ⟨h5, h3⟩ := i_c2 h3
  refine ⟨⟨h1, h2, h3⟩, ?_⟩
  have hc : z_cmp (.if_icmp .gt o) (Int32.ofInt a) (Int32.ofInt b) = true := by
    have hh : (Int32.ofInt b < Int32.ofInt a) ↔ (b < a) := iR_lt h4 h5
    simp only [z_cmp]
    exact decide_eq_true (hh.mpr hc0)
  show some (if z_cmp (.if_icmp .gt o) (Int32.ofInt a) (Int32.ofInt b) then x else pc + 3, _, _, _, _, _, _) = _
  rw [hc]
  rfl
theorem i_if_gt_t {a o : Int} (hE : z_find (z_cd P) pc = some (pc, .ifCond .gt o, x, y)) (hc0 : 0 < a) (k : irun scr P (x) loc stk sh M kc ks q) : irun scr P pc loc (iI a :: stk) sh M kc ks q := by
  refine i_step1 hE rfl (fun h1 h2 h3 => ?_) k
  have h4 : iR 0 := iR_0
  obtain ⟨h5, h3⟩ := i_c2 h3
  refine ⟨⟨h1, h2, h3⟩, ?_⟩
  have hc : z_cmp (.ifCond .gt o) (Int32.ofInt a) (Int32.ofInt 0) = true := by
    have hh : (Int32.ofInt 0 < Int32.ofInt a) ↔ (0 < a) := iR_lt h4 h5
    simp only [z_cmp]
    exact decide_eq_true (hh.mpr hc0)
  show some (if z_cmp (.ifCond .gt o) (Int32.ofInt a) 0 then x else pc + 3, _, _, _, _, _, _) = _
  rw [show (0 : Int32) = Int32.ofInt 0 from rfl, hc]
  rfl
theorem i_icmp_gt_f {a b o : Int} (hE : z_find (z_cd P) pc = some (pc, .if_icmp .gt o, x, y)) (hc0 : a ≤ b) (k : irun scr P (pc + 3) loc stk sh M kc ks q) : irun scr P pc loc (iI b :: iI a :: stk) sh M kc ks q := by
  refine i_step1 hE rfl (fun h1 h2 h3 => ?_) k
  obtain ⟨h4, h3⟩ := i_c2 h3
  obtain ⟨h5, h3⟩ := i_c2 h3
  refine ⟨⟨h1, h2, h3⟩, ?_⟩
  have hc : z_cmp (.if_icmp .gt o) (Int32.ofInt a) (Int32.ofInt b) = false := by
    have hh : (Int32.ofInt b < Int32.ofInt a) ↔ (b < a) := iR_lt h4 h5
    simp only [z_cmp]
    exact decide_eq_false (fun h => absurd (hh.mp h) (by omega))
  show some (if z_cmp (.if_icmp .gt o) (Int32.ofInt a) (Int32.ofInt b) then x else pc + 3, _, _, _, _, _, _) = _
  rw [hc]
  rfl
theorem i_if_gt_f {a o : Int} (hE : z_find (z_cd P) pc = some (pc, .ifCond .gt o, x, y)) (hc0 : a ≤ 0) (k : irun scr P (pc + 3) loc stk sh M kc ks q) : irun scr P pc loc (iI a :: stk) sh M kc ks q := by
  refine i_step1 hE rfl (fun h1 h2 h3 => ?_) k
  have h4 : iR 0 := iR_0
  obtain ⟨h5, h3⟩ := i_c2 h3
  refine ⟨⟨h1, h2, h3⟩, ?_⟩
  have hc : z_cmp (.ifCond .gt o) (Int32.ofInt a) (Int32.ofInt 0) = false := by
    have hh : (Int32.ofInt 0 < Int32.ofInt a) ↔ (0 < a) := iR_lt h4 h5
    simp only [z_cmp]
    exact decide_eq_false (fun h => absurd (hh.mp h) (by omega))
  show some (if z_cmp (.ifCond .gt o) (Int32.ofInt a) 0 then x else pc + 3, _, _, _, _, _, _) = _
  rw [show (0 : Int32) = Int32.ofInt 0 from rfl, hc]
  rfl
theorem i_icmp_le_t {a b o : Int} (hE : z_find (z_cd P) pc = some (pc, .if_icmp .le o, x, y)) (hc0 : a ≤ b) (k : irun scr P (x) loc stk sh M kc ks q) : irun scr P pc loc (iI b :: iI a :: stk) sh M kc ks q := by
  refine i_step1 hE rfl (fun h1 h2 h3 => ?_) k
  obtain ⟨h4, h3⟩ := i_c2 h3
  obtain ⟨h5, h3⟩ := i_c2 h3
  refine ⟨⟨h1, h2, h3⟩, ?_⟩
  have hc : z_cmp (.if_icmp .le o) (Int32.ofInt a) (Int32.ofInt b) = true := by
    have hh : (Int32.ofInt a ≤ Int32.ofInt b) ↔ (a ≤ b) := iR_le h5 h4
    simp only [z_cmp]
    exact decide_eq_true (hh.mpr hc0)
  show some (if z_cmp (.if_icmp .le o) (Int32.ofInt a) (Int32.ofInt b) then x else pc + 3, _, _, _, _, _, _) = _
  rw [hc]
  rfl
theorem i_if_le_t {a o : Int} (hE : z_find (z_cd P) pc = some (pc, .ifCond .le o, x, y)) (hc0 : a ≤ 0) (k : irun scr P (x) loc stk sh M kc ks q) : irun scr P pc loc (iI a :: stk) sh M kc ks q := by
  refine i_step1 hE rfl (fun h1 h2 h3 => ?_) k
  have h4 : iR 0 := iR_0
  obtain ⟨h5, h3⟩ := i_c2 h3
  refine ⟨⟨h1, h2, h3⟩, ?_⟩
  have hc : z_cmp (.ifCond .le o) (Int32.ofInt a) (Int32.ofInt 0) = true := by
    have hh : (Int32.ofInt a ≤ Int32.ofInt 0) ↔ (a ≤ 0) := iR_le h5 h4
    simp only [z_cmp]
    exact decide_eq_true (hh.mpr hc0)
  show some (if z_cmp (.ifCond .le o) (Int32.ofInt a) 0 then x else pc + 3, _, _, _, _, _, _) = _
  rw [show (0 : Int32) = Int32.ofInt 0 from rfl, hc]
  rfl
theorem i_icmp_le_f {a b o : Int} (hE : z_find (z_cd P) pc = some (pc, .if_icmp .le o, x, y)) (hc0 : b < a) (k : irun scr P (pc + 3) loc stk sh M kc ks q) : irun scr P pc loc (iI b :: iI a :: stk) sh M kc ks q := by
  refine i_step1 hE rfl (fun h1 h2 h3 => ?_) k
  obtain ⟨h4, h3⟩ := i_c2 h3
  obtain ⟨h5, h3⟩ := i_c2 h3
  refine ⟨⟨h1, h2, h3⟩, ?_⟩
  have hc : z_cmp (.if_icmp .le o) (Int32.ofInt a) (Int32.ofInt b) = false := by
    have hh : (Int32.ofInt a ≤ Int32.ofInt b) ↔ (a ≤ b) := iR_le h5 h4
    simp only [z_cmp]
    exact decide_eq_false (fun h => absurd (hh.mp h) (by omega))
  show some (if z_cmp (.if_icmp .le o) (Int32.ofInt a) (Int32.ofInt b) then x else pc + 3, _, _, _, _, _, _) = _
  rw [hc]
  rfl
theorem i_if_le_f {a o : Int} (hE : z_find (z_cd P) pc = some (pc, .ifCond .le o, x, y)) (hc0 : 0 < a) (k : irun scr P (pc + 3) loc stk sh M kc ks q) : irun scr P pc loc (iI a :: stk) sh M kc ks q := by
  refine i_step1 hE rfl (fun h1 h2 h3 => ?_) k
  have h4 : iR 0 := iR_0
  obtain ⟨h5, h3⟩ := i_c2 h3
  refine ⟨⟨h1, h2, h3⟩, ?_⟩
  have hc : z_cmp (.ifCond .le o) (Int32.ofInt a) (Int32.ofInt 0) = false := by
    have hh : (Int32.ofInt a ≤ Int32.ofInt 0) ↔ (a ≤ 0) := iR_le h5 h4
    simp only [z_cmp]
    exact decide_eq_false (fun h => absurd (hh.mp h) (by omega))
  show some (if z_cmp (.ifCond .le o) (Int32.ofInt a) 0 then x else pc + 3, _, _, _, _, _, _) = _
  rw [show (0 : Int32) = Int32.ofInt 0 from rfl, hc]
  rfl
theorem i_getf {n p w : Nat} {rs : List (Option Nat)} {kd : List Nat} (hE : z_find (z_cd P) pc = some (pc, .getfield n, x, y)) (hs : z_at sh p = some (0, x, rs)) (hk : z_at zCT x = some kd) (hw : z_at kd y = some w) (hw2 : w < 2) (k : irun scr P (pc + 3) loc (iI (M p y) :: stk) sh M kc ks q) : irun scr P pc loc (iP p :: stk) sh M kc ks q := by
  refine i_step1 hE rfl (fun h1 h2 h3 => ?_) k
  obtain ⟨h4, h3⟩ := i_c2 h3
  refine ⟨⟨h1, h2, i_cc (h1 _ _) h3⟩, ?_⟩
  show z_obj sh p x _ = _
  rw [z_obj_e hs, hk]
  dsimp only
  rw [hw]
  dsimp only
  rw [if_pos hw2]
  rfl
theorem i_getr {n p w p2 : Nat} {rs : List (Option Nat)} {kd : List Nat} (hE : z_find (z_cd P) pc = some (pc, .getfield n, x, y)) (hs : z_at sh p = some (0, x, rs)) (hk : z_at zCT x = some kd) (hw : z_at kd y = some w) (hw2 : ¬ w < 2) (hr : z_at rs y = some (some p2)) (k : irun scr P (pc + 3) loc (iP p2 :: stk) sh M kc ks q) : irun scr P pc loc (iP p :: stk) sh M kc ks q := by
  refine i_step1 hE rfl (fun h1 h2 h3 => ?_) k
  obtain ⟨h4, h3⟩ := i_c2 h3
  refine ⟨⟨h1, h2, i_cc trivial h3⟩, ?_⟩
  show z_obj sh p x _ = _
  rw [z_obj_e hs, hk]
  dsimp only
  rw [hw]
  dsimp only
  rw [if_neg hw2, hr]
  rfl
theorem i_puti {n p : Nat} {a : Int} {rs : List (Option Nat)} {kd : List Nat} (hE : z_find (z_cd P) pc = some (pc, .putfield n, x, y)) (hs : z_at sh p = some (0, x, rs)) (hk : z_at zCT x = some kd) (hw : z_at kd y = some 0) (k : irun scr P (pc + 3) loc stk sh (i_st M p y a) kc ks q) : irun scr P pc loc (iI a :: iP p :: stk) sh M kc ks q := by
  refine i_step1 hE rfl (fun h1 h2 h3 => ?_) k
  obtain ⟨h4, h3⟩ := i_c2 h3
  obtain ⟨h5, h3⟩ := i_c2 h3
  refine ⟨⟨i_MR_st h1 h4 p y, h2, h3⟩, ?_⟩
  show z_putf f_st x y (pc + 3) _ _ _ _ _ _ = _
  unfold z_putf
  rw [hk]
  dsimp only
  rw [hw]
  show z_obj sh p x _ = _
  rw [z_obj_e hs, i_M_st]
theorem i_putz {n p : Nat} {a : Int} {rs : List (Option Nat)} {kd : List Nat} (hE : z_find (z_cd P) pc = some (pc, .putfield n, x, y)) (hs : z_at sh p = some (0, x, rs)) (hk : z_at zCT x = some kd) (hw : z_at kd y = some 1) (h01 : a = 0 ∨ a = 1) (k : irun scr P (pc + 3) loc stk sh (i_st M p y a) kc ks q) : irun scr P pc loc (iI a :: iP p :: stk) sh M kc ks q := by
  refine i_step1 hE rfl (fun h1 h2 h3 => ?_) k
  obtain ⟨h4, h3⟩ := i_c2 h3
  obtain ⟨h5, h3⟩ := i_c2 h3
  refine ⟨⟨i_MR_st h1 h4 p y, h2, h3⟩, ?_⟩
  show z_putf f_st x y (pc + 3) _ _ _ _ _ _ = _
  unfold z_putf
  rw [hk]
  dsimp only
  rw [hw]
  show z_obj sh p x _ = _
  rw [z_obj_e hs, if_pos (by rcases h01 with rfl | rfl <;> decide), i_M_st]
theorem i_putr {n p p2 : Nat} {rs : List (Option Nat)} {kd : List Nat} (hE : z_find (z_cd P) pc = some (pc, .putfield n, x, y)) (hs : z_at sh p = some (0, x, rs)) (hk : z_at zCT x = some kd) (hw : z_at kd y = some 2) (hy : y < rs.length) (k : irun scr P (pc + 3) loc stk (sh.set p (0, x, rs.set y (some p2))) M kc ks q) : irun scr P pc loc (iP p2 :: iP p :: stk) sh M kc ks q := by
  refine i_step1 hE rfl (fun h1 h2 h3 => ?_) k
  obtain ⟨h4, h3⟩ := i_c2 h3
  obtain ⟨h5, h3⟩ := i_c2 h3
  refine ⟨⟨h1, h2, h3⟩, ?_⟩
  show z_putf f_st x y (pc + 3) _ _ _ _ _ _ = _
  unfold z_putf
  rw [hk]
  dsimp only
  rw [hw]
  show z_obj sh p x _ = _
  rw [z_obj_e hs, if_pos hy]
theorem i_in {i : Int} {n : Nat} (hi : iR i) (h0 : 0 ≤ i) (h1 : i < n) : z_in (Int32.ofInt i) n = true := by
  unfold z_in
  rw [decide_eq_false (fun h => by have := (iR_lt hi iR_0).mp h; omega), iR_nat hi, decide_eq_false (by omega)]
  rfl
theorem i_iald {i : Int} {p n : Nat} {rs : List (Option Nat)} (hE : z_find (z_cd P) pc = some (pc, .iaload, x, y)) (hs : z_at sh p = some (1, n, rs)) (h0 : 0 ≤ i) (hi : i < n) (hp : ¬ p = 1000000) (k : irun scr P (pc + 1) loc (iI (M p i.toNat) :: stk) sh M kc ks q) : irun scr P pc loc (iI i :: iP p :: stk) sh M kc ks q := by
  refine i_step1 hE rfl (fun h1 h2 h3 => ?_) k
  obtain ⟨h4, h3⟩ := i_c2 h3
  obtain ⟨h5, h3⟩ := i_c2 h3
  refine ⟨⟨h1, h2, i_cc (h1 _ _) h3⟩, ?_⟩
  show (if p = 1000000 then _ else z_ints sh p _) = _
  rw [if_neg hp]
  rw [z_ints_e hs, if_pos (i_in h4 h0 hi), iR_nat h4]
  rfl
theorem i_sald {i : Int} {L : Nat} {xs : Nat → Int32} (hE : z_find (z_cd P) pc = some (pc, .iaload, x, y)) (hs : scr = some (L, xs)) (h0 : 0 ≤ i) (hi : i < L) (k : irun scr P (pc + 1) loc (iI (xs i.toNat).toInt :: stk) sh M kc ks q) : irun scr P pc loc (iI i :: iP 1000000 :: stk) sh M kc ks q := by
  refine i_step1 hE rfl (fun h1 h2 h3 => ?_) k
  obtain ⟨h4, h3⟩ := i_c2 h3
  obtain ⟨h5, h3⟩ := i_c2 h3
  refine ⟨⟨h1, h2, i_cc (iR_ofI _) h3⟩, ?_⟩
  subst hs
  show (if z_in (Int32.ofInt i) L then some (pc + 1, _, Value.int (xs (Int32.ofInt i).toNatClampNeg) :: _, _, _, _, _) else none) = some (pc + 1, _, Value.int (Int32.ofInt (xs i.toNat).toInt) :: _, _, _, _, _)
  rw [if_pos (i_in h4 h0 hi), iR_nat h4, Int32.ofInt_toInt]
theorem i_slen {L : Nat} {xs : Nat → Int32} (hE : z_find (z_cd P) pc = some (pc, .arraylength, x, y)) (hs : scr = some (L, xs)) (hL : (L : Int) < 2147483648) (k : irun scr P (pc + 1) loc (iI (L : Int) :: stk) sh M kc ks q) : irun scr P pc loc (iP 1000000 :: stk) sh M kc ks q := by
  refine i_step1 hE rfl (fun h1 h2 h3 => ?_) k
  obtain ⟨h4, h3⟩ := i_c2 h3
  refine ⟨⟨h1, h2, i_cc (show iR (L : Int) by unfold iR; omega) h3⟩, ?_⟩
  subst hs
  show some (pc + 1, _, Value.int (Int32.ofNat L) :: _, _, _, _, _) = some (pc + 1, _, Value.int (Int32.ofInt (L : Int)) :: _, _, _, _, _)
  rw [Int32.ofInt_eq_ofNat]
theorem i_alen {p n j : Nat} {rs : List (Option Nat)} (hE : z_find (z_cd P) pc = some (pc, .arraylength, x, y)) (hs : z_at sh p = some (j + 1, n, rs)) (hL : (n : Int) < 2147483648) (hp : ¬ p = 1000000) (k : irun scr P (pc + 1) loc (iI (n : Int) :: stk) sh M kc ks q) : irun scr P pc loc (iP p :: stk) sh M kc ks q := by
  refine i_step1 hE rfl (fun h1 h2 h3 => ?_) k
  obtain ⟨h4, h3⟩ := i_c2 h3
  refine ⟨⟨h1, h2, i_cc (show iR (n : Int) by unfold iR; omega) h3⟩, ?_⟩
  show (if p = 1000000 then _ else _) = _
  rw [if_neg hp, hs]
  show some (pc + 1, _, Value.int (Int32.ofNat n) :: _, _, _, _, _) = some (pc + 1, _, Value.int (Int32.ofInt (n : Int)) :: _, _, _, _, _)
  rw [Int32.ofInt_eq_ofNat]
theorem i_bald {i : Int} {p n : Nat} {rs : List (Option Nat)} (hE : z_find (z_cd P) pc = some (pc, .baload, x, y)) (hs : z_at sh p = some (2, n, rs)) (h0 : 0 ≤ i) (hi : i < n) (k : irun scr P (pc + 1) loc (iI (M p i.toNat) :: stk) sh M kc ks q) : irun scr P pc loc (iI i :: iP p :: stk) sh M kc ks q := by
  refine i_step1 hE rfl (fun h1 h2 h3 => ?_) k
  obtain ⟨h4, h3⟩ := i_c2 h3
  obtain ⟨h5, h3⟩ := i_c2 h3
  refine ⟨⟨h1, h2, i_cc (h1 _ _) h3⟩, ?_⟩
  show z_bools sh p _ = _
  rw [z_bools_e hs, if_pos (i_in h4 h0 hi), iR_nat h4]
  rfl
theorem i_aald {i : Int} {p n p2 : Nat} {rs : List (Option Nat)} (hE : z_find (z_cd P) pc = some (pc, .aaload, x, y)) (hs : z_at sh p = some (3, n, rs)) (h0 : 0 ≤ i) (hi : i < n) (hr : z_at rs i.toNat = some (some p2)) (k : irun scr P (pc + 1) loc (iP p2 :: stk) sh M kc ks q) : irun scr P pc loc (iI i :: iP p :: stk) sh M kc ks q := by
  refine i_step1 hE rfl (fun h1 h2 h3 => ?_) k
  obtain ⟨h4, h3⟩ := i_c2 h3
  obtain ⟨h5, h3⟩ := i_c2 h3
  refine ⟨⟨h1, h2, i_cc trivial h3⟩, ?_⟩
  show z_refs sh p _ = _
  rw [z_refs_e hs, if_pos (i_in h4 h0 hi), iR_nat h4, hr]
  rfl
theorem i_iast {i a : Int} {p n : Nat} {rs : List (Option Nat)} (hE : z_find (z_cd P) pc = some (pc, .iastore, x, y)) (hs : z_at sh p = some (1, n, rs)) (h0 : 0 ≤ i) (hi : i < n) (k : irun scr P (pc + 1) loc stk sh (i_st M p i.toNat a) kc ks q) : irun scr P pc loc (iI a :: iI i :: iP p :: stk) sh M kc ks q := by
  refine i_step1 hE rfl (fun h1 h2 h3 => ?_) k
  obtain ⟨h4, h3⟩ := i_c2 h3
  obtain ⟨h5, h3⟩ := i_c2 h3
  obtain ⟨h6, h3⟩ := i_c2 h3
  refine ⟨⟨i_MR_st h1 h4 p i.toNat, h2, h3⟩, ?_⟩
  show z_ints sh p _ = _
  rw [z_ints_e hs, if_pos (i_in h5 h0 hi), iR_nat h5, i_M_st]
theorem i_bast {i a : Int} {p n : Nat} {rs : List (Option Nat)} (hE : z_find (z_cd P) pc = some (pc, .bastore, x, y)) (hs : z_at sh p = some (2, n, rs)) (h0 : 0 ≤ i) (hi : i < n) (h01 : a = 0 ∨ a = 1) (k : irun scr P (pc + 1) loc stk sh (i_st M p i.toNat a) kc ks q) : irun scr P pc loc (iI a :: iI i :: iP p :: stk) sh M kc ks q := by
  refine i_step1 hE rfl (fun h1 h2 h3 => ?_) k
  obtain ⟨h4, h3⟩ := i_c2 h3
  obtain ⟨h5, h3⟩ := i_c2 h3
  obtain ⟨h6, h3⟩ := i_c2 h3
  refine ⟨⟨i_MR_st h1 h4 p i.toNat, h2, h3⟩, ?_⟩
  have hn : vp_nar .boolean (Int32.ofInt a) = Int32.ofInt a := by rcases h01 with rfl | rfl <;> decide
  show z_bools sh p _ = _
  rw [z_bools_e hs, if_pos (i_in h5 h0 hi), iR_nat h5, hn, i_M_st]
theorem i_copy {n a b n0 n1 : Nat} {sp dp c : Int} {r0 r1 : List (Option Nat)} (hE : z_find (z_cd P) pc = some (pc, .invokestatic n, x, y)) (hx : x = 3) (hs0 : z_at sh a = some (1, n0, r0)) (hs1 : z_at sh b = some (1, n1, r1)) (c1 : 0 ≤ sp) (c2 : 0 ≤ dp) (c3 : 0 ≤ c) (c4 : sp + c ≤ n0) (c5 : dp + c ≤ n1) (c6 : ((stk.map i_v).map fun v => v.category).sum ≤ 8) (k : irun scr P (pc + 3) loc stk sh (i_cp M a sp.toNat b dp.toNat c.toNat) kc ks q) : irun scr P pc loc (iI c :: iI dp :: iP b :: iI sp :: iP a :: stk) sh M kc ks q := by
  refine i_step1 hE (by subst hx; rfl) (fun h1 h2 h3 => ?_) k
  obtain ⟨h4, h3⟩ := i_c2 h3
  obtain ⟨h5, h3⟩ := i_c2 h3
  obtain ⟨h6, h3⟩ := i_c2 h3
  obtain ⟨h7, h3⟩ := i_c2 h3
  obtain ⟨h8, h3⟩ := i_c2 h3
  subst hx
  refine ⟨⟨i_MR_cp h1 a sp.toNat b dp.toNat c.toNat, h2, h3⟩, ?_⟩
  show z_ints sh a _ = _
  rw [z_ints_e hs0, z_ints_e hs1, if_pos ⟨(iR_le iR_0 h7).mpr c1, (iR_le iR_0 h5).mpr c2, (iR_le iR_0 h4).mpr c3, by rw [iR_nat h7, iR_nat h4]; omega, by rw [iR_nat h5, iR_nat h4]; omega, c6⟩, iR_nat h7, iR_nat h5, iR_nat h4, i_M_cp]
theorem i_max {n : Nat} {a b : Int} (hE : z_find (z_cd P) pc = some (pc, .invokestatic n, x, y)) (hx : x = 4) (c6 : ((stk.map i_v).map fun v => v.category).sum ≤ 8) (k : irun scr P (pc + 3) loc (iI (if a < b then b else a) :: stk) sh M kc ks q) : irun scr P pc loc (iI b :: iI a :: stk) sh M kc ks q := by
  refine i_step1 hE (by subst hx; rfl) (fun h1 h2 h3 => ?_) k
  obtain ⟨h4, h3⟩ := i_c2 h3
  obtain ⟨h5, h3⟩ := i_c2 h3
  subst hx
  refine ⟨⟨h1, h2, i_cc (by show iR _; split <;> assumption) h3⟩, ?_⟩
  show (if _ then some (pc + 3, _, Value.int (if Int32.ofInt a < Int32.ofInt b then Int32.ofInt b else Int32.ofInt a) :: _, _, _, _, _) else none) = some (pc + 3, _, Value.int (Int32.ofInt (if a < b then b else a)) :: _, _, _, _, _)
  rw [if_pos c6]
  have hh := iR_lt h5 h4
  by_cases hc : a < b
  · rw [if_pos (hh.mpr hc), if_pos hc]
  · rw [if_neg (fun q => hc (hh.mp q)), if_neg hc]
theorem i_min {n : Nat} {a b : Int} (hE : z_find (z_cd P) pc = some (pc, .invokestatic n, x, y)) (hx : x = 5) (c6 : ((stk.map i_v).map fun v => v.category).sum ≤ 8) (k : irun scr P (pc + 3) loc (iI (if b < a then b else a) :: stk) sh M kc ks q) : irun scr P pc loc (iI b :: iI a :: stk) sh M kc ks q := by
  refine i_step1 hE (by subst hx; rfl) (fun h1 h2 h3 => ?_) k
  obtain ⟨h4, h3⟩ := i_c2 h3
  obtain ⟨h5, h3⟩ := i_c2 h3
  subst hx
  refine ⟨⟨h1, h2, i_cc (by show iR _; split <;> assumption) h3⟩, ?_⟩
  show (if _ then some (pc + 3, _, Value.int (if Int32.ofInt b < Int32.ofInt a then Int32.ofInt b else Int32.ofInt a) :: _, _, _, _, _) else none) = some (pc + 3, _, Value.int (Int32.ofInt (if b < a then b else a)) :: _, _, _, _, _)
  rw [if_pos c6]
  have hh := iR_lt h4 h5
  by_cases hc : b < a
  · rw [if_pos (hh.mpr hc), if_pos hc]
  · rw [if_neg (fun q => hc (hh.mp q)), if_neg hc]
theorem i_ireturn {a : Int} (hE : z_find (z_cd P) pc = some (pc, .ireturn, x, y)) (hr : z_rt P = some .int) : irun scr P pc loc [iI a] sh M kc ks (some a, sh, M) := by
  intro h1 h2 h3
  have ha : iR a := (i_c2 h3).1
  exact ⟨h1, fun b hb => by cases hb; exact ha, z_run_iret hE rfl (by rw [hr]; rfl)⟩
theorem i_zreturn {a : Int} (hE : z_find (z_cd P) pc = some (pc, .ireturn, x, y)) (hr : z_rt P = some .boolean) (h01 : a = 0 ∨ a = 1) : irun scr P pc loc [iI a] sh M kc ks (some a, sh, M) := by
  intro h1 h2 h3
  have ha : iR a := (i_c2 h3).1
  exact ⟨h1, fun b hb => by cases hb; exact ha, z_run_iret hE rfl (by rw [hr]; rcases h01 with rfl | rfl <;> decide)⟩
theorem i_vreturn (hE : z_find (z_cd P) pc = some (pc, .return_, x, y)) (hr : z_rt P = none) : irun scr P pc loc [] sh M kc ks (none, sh, M) := by
  intro h1 h2 h3
  exact ⟨h1, (fun b hb => by cases hb), z_run_vret hE rfl hr⟩
def i_sl : List iV → List (Option iV)
  | [] => []
  | .inr (.inl w) :: l => some (.inr (.inl w)) :: none :: i_sl l
  | v :: l => some v :: i_sl l
def i_ent (as : List iV) (n : Nat) : List (Option iV) := i_sl as ++ List.replicate (n - (i_sl as).length) none
theorem i_sl_map (as : List iV) : z_sl (as.map i_v) = (i_sl as).map (Option.map i_v) := by
  induction as with
  | nil => rfl
  | cons v l ih =>
    rcases v with a | w | p
    · simp only [List.map_cons, z_sl, i_v, i_sl, ih]; rfl
    · simp only [List.map_cons, z_sl, i_v, i_sl, ih]; rfl
    · simp only [List.map_cons, z_sl, i_v, i_sl, ih]; rfl
theorem i_ent_map (as : List iV) (n : Nat) : z_ent (as.map i_v) n = (i_ent as n).map (Option.map i_v) := by
  unfold z_ent i_ent
  rw [i_sl_map, List.map_append, List.length_map, List.map_replicate]
  rfl
theorem i_sl_ok {as : List iV} (h : ∀ v ∈ as, i_ok v) : ∀ v ∈ i_sl as, i_okO v := by
  induction as with
  | nil => intro v hv; cases hv
  | cons a l ih =>
    have h2 := i_c2 h
    rcases a with a | w | p
    · exact List.forall_mem_cons.mpr ⟨h2.1, ih h2.2⟩
    · exact List.forall_mem_cons.mpr ⟨trivial, List.forall_mem_cons.mpr ⟨trivial, ih h2.2⟩⟩
    · exact List.forall_mem_cons.mpr ⟨trivial, ih h2.2⟩
theorem i_ent_ok {as : List iV} (h : ∀ v ∈ as, i_ok v) (n : Nat) : ∀ v ∈ i_ent as n, i_okO v := by
  intro v hv
  unfold i_ent at hv
  rcases List.mem_append.mp hv with hv | hv
  · exact i_sl_ok h v hv
  · rw [(List.mem_replicate.mp hv).2]; trivial
/-- a call: the arguments in their order, what stays on the stack, the method that it goes to, what it answers -/
theorem i_call {i : Instr} {as rest : List iV} {T : Nat × zP} {q1 : Option Int × List zS × iM} (hE : z_find (z_cd P) pc = some (pc, i, x, y)) (hk : z_kd i x = 2) (h1 : irun none T.2 0 (i_ent as (z_mL T.2)) [] sh M 0 0 q1) (hst : stk = as.reverse ++ rest) (hT : z_tgt (pc, i, x, y) (stk.map i_v) sh = some T) (hna : as.length = z_na T.2)
    (hc : z_cOk P T.2 (stk.map i_v) kc ks = true) (hl : q1.2.1.length = sh.length) (hmc : z_mc T.2 = 0) (hms : z_ms T.2 = 0)
    (k : irun scr P (pc + z_ln i) loc (q1.1.toList.map iI ++ rest) q1.2.1 q1.2.2 kc ks q) : irun scr P pc loc stk sh M kc ks q := by
  intro a1 a2 a3
  have a4 : ∀ v ∈ as, i_ok v := fun v hv => a3 v (by rw [hst]; exact List.mem_append_left _ (List.mem_reverse.mpr hv))
  have a5 : ∀ v ∈ rest, i_ok v := fun v hv => a3 v (by rw [hst]; exact List.mem_append_right _ hv)
  obtain ⟨b1, b2, b3⟩ := h1 a1 (i_ent_ok a4 _) (fun v hv => by cases hv)
  obtain ⟨c1, c2, c3⟩ := k b1 a2 (by
    intro v hv
    rcases List.mem_append.mp hv with hv | hv
    · obtain ⟨a, ha, rfl⟩ := List.mem_map.mp hv
      exact b2 a (by simpa using ha)
    · exact a5 v hv)
  refine ⟨c1, c2, z_run_call hE hk hT hc (q1 := (q1.1.map (fun a => Value.int (Int32.ofInt a)), q1.2.1, i_M q1.2.2)) ?_ (Or.inl hl) ?_⟩
  · have e1 : ((stk.map i_v).take (z_na T.2)).reverse = as.map i_v := by
      rw [← hna, hst, List.map_append, List.take_left' (by simp), List.map_reverse, List.reverse_reverse]
    rw [e1, i_ent_map]
    exact b3
  · have e2 : (stk.map i_v).drop (z_na T.2) = rest.map i_v := by
      rw [← hna, hst, List.map_append, List.drop_left' (by simp)]
    rw [e2, hmc, hms]
    have e3 : (q1.1.map (fun a => Value.int (Int32.ofInt a))).toList = (q1.1.toList.map iI).map i_v := by
      cases q1.1 <;> rfl
    show z_run f_gt f_st f_nw f_cp scr P (pc + z_ln i) _ ((q1.1.map (fun a => Value.int (Int32.ofInt a))).toList ++ rest.map i_v) _ _ (kc + 0) (ks + 0) _
    rw [e3, ← List.map_append]
    exact c3
end IRules
