section ZS
variable {μ : Type} {gt : μ → Nat → Nat → Int32} {st : μ → Nat → Nat → Int32 → μ} {nw : μ → Nat → μ} {cp : μ → Nat → Nat → Nat → Nat → Nat → μ}
  {p : Program} {l : Launch} {e : Env} {R : Room} {s : State} {mi : MethodId} {args : Array Value} {below : List Frame} {meth : Method} {c : Code} {H H0 : Heap} {locs : List Loc} {Q : State → Prop}
  {own : String} {oc : Nat} {ini : Bool} {cc : ByteArray} {nL : Nat} {D : va_G} {cA : Nat → ClassId} {F : Nat → Prop} {A : Nat → Nat} {ls : Array Slot} {mc ms : Nat} {scr : Option (Nat × (Nat → Int32))}
  {loc : List (Option Value)} {stk : List Value} {sh : List zS} {m : μ} {kc ks : Nat} {t : zT μ} {pc x y : Nat}
/-- what may follow a step -/
def z_K (gt : μ → Nat → Nat → Int32) (p : Program) (l : Launch) (e : Env) (R : Room) (s : State) (mi : MethodId) (args : Array Value) (below : List Frame) (meth : Method) (c : Code) (Q : State → Prop) (nL : Nat) (D : va_G) (cA : Nat → ClassId) (F : Nat → Prop) (H0 : Heap) (mc ms : Nat) (A : Nat → Nat) (sh : List zS) (t : zT μ) : Prop :=
  ∀ (A' : Nat → Nat) (ls' : Array Slot) (H' : Heap) (locs' : List Loc), z_ag sh.length A A' → sh.length ≤ t.2.2.2.1.length → (t.2.2.2.1.length = sh.length → A' = A) → z_Loc A' t.2.1 ls' nL → z_wd D cA F H0 A' t.2.2.2.1 (gt t.2.2.2.2.1) H' locs' → (t.2.2.2.2.2.1 ≤ mc ∧ t.2.2.2.2.2.2 ≤ ms) →
    W p l e R s mi args below meth c H' locs' t.2.2.2.2.2.1 t.2.2.2.2.2.2 Q (F0 mi t.1 ls' (t.2.2.1.map (z_val A')))
theorem z_K.stay {pc' : Nat} {stk' : List Value} (kk : z_K gt p l e R s mi args below meth c Q nL D cA F H0 mc ms A sh (pc', loc, stk', sh, m, kc, ks)) (hl : z_Loc A loc ls nL) (hw : z_wd D cA F H0 A sh (gt m) H locs) (hk : kc ≤ mc ∧ ks ≤ ms) :
    W p l e R s mi args below meth c H locs kc ks Q (F0 mi pc' ls (stk'.map (z_val A))) := kk A ls H locs (z_ag_rf _ _) (Nat.le_refl _) (fun _ => rfl) hl hw hk
theorem z_K.sto {pc' i : Nat} {v : Value} {stk' : List Value} {ls' : Array Slot} (kk : z_K gt p l e R s mi args below meth c Q nL D cA F H0 mc ms A sh (pc', loc.set i (some v), stk', sh, m, kc, ks)) (hl : z_Loc A loc ls nL) (hw : z_wd D cA F H0 A sh (gt m) H locs) (hk : kc ≤ mc ∧ ks ≤ ms) (hi : i < loc.length) (hf : z_free loc i = true)
    (h' : lv_has ls' nL ((i, z_val A v) :: (z_as A loc).filter (fun q => !(q.1 == i) && !(q.1 + 1 == i && q.2.category == 2)))) :
    W p l e R s mi args below meth c H locs kc ks Q (F0 mi pc' ls' (stk'.map (z_val A))) := kk A ls' H locs (z_ag_rf _ _) (Nat.le_refl _) (fun _ => rfl) (hl.put hi hf h') hw hk
theorem z_K.mem {pc' q : Nat} {e0 : zS} {g : Nat → Int32} {m' : μ} {stk' : List Value} {H1 : Heap} {locs1 : List Loc} (kk : z_K gt p l e R s mi args below meth c Q nL D cA F H0 mc ms A sh (pc', loc, stk', sh, m', kc, ks)) (hl : z_Loc A loc ls nL) (hk : kc ≤ mc ∧ ks ≤ ms) (hs : z_at sh q = some e0) (hm : gt m' = va_up (gt m) q g)
    (hP : va_P D zCl ((z_W A cA sh (gt m)).set q (A q, z_cell A cA e0 g)) H1) (hD : va_D F ((z_W A cA sh (gt m)).set q (A q, z_cell A cA e0 g))) (hS : va_S F H0 H1 locs1) :
    W p l e R s mi args below meth c H1 locs1 kc ks Q (F0 mi pc' ls (stk'.map (z_val A))) := by
  refine kk A ls H1 locs1 (z_ag_rf _ _) (Nat.le_refl _) (fun _ => rfl) hl ⟨?_, ?_, hS⟩ hk
  · show va_P D zCl (z_W A cA sh (gt m')) H1
    rw [hm, z_W_m hs]
    exact hP
  · show va_D F (z_W A cA sh (gt m'))
    rw [hm, z_W_m hs]
    exact hD
theorem z_K.shp {pc' q : Nat} {e0 e1 : zS} {stk' : List Value} {H1 : Heap} {locs1 : List Loc} (kk : z_K gt p l e R s mi args below meth c Q nL D cA F H0 mc ms A sh (pc', loc, stk', sh.set q e1, m, kc, ks)) (hl : z_Loc A loc ls nL) (hk : kc ≤ mc ∧ ks ≤ ms) (hs : z_at sh q = some e0)
    (hP : va_P D zCl ((z_W A cA sh (gt m)).set q (A q, z_cell A cA e1 (gt m q))) H1) (hD : va_D F ((z_W A cA sh (gt m)).set q (A q, z_cell A cA e1 (gt m q)))) (hS : va_S F H0 H1 locs1) :
    W p l e R s mi args below meth c H1 locs1 kc ks Q (F0 mi pc' ls (stk'.map (z_val A))) := by
  refine kk A ls H1 locs1 (z_ag_rf _ _) (by simp) (fun _ => rfl) hl ⟨?_, ?_, hS⟩ hk
  · show va_P D zCl (z_W A cA (sh.set q e1) (gt m)) H1
    rw [z_W_s hs]
    exact hP
  · show va_D F (z_W A cA (sh.set q e1) (gt m))
    rw [z_W_s hs]
    exact hD
theorem z_K.grow {pc' q kc' ks' : Nat} {e1 : zS} {g : Nat → Int32} {m' : μ} {r : List Value} {H1 : Heap} {locs1 : List Loc} (kk : z_K gt p l e R s mi args below meth c Q nL D cA F H0 mc ms A sh (pc', loc, .ref sh.length :: r, sh ++ [e1], m', kc', ks')) (hl : z_Loc A loc ls nL)
    (hk : kc' ≤ mc ∧ ks' ≤ ms) (hn : sh.length < 1000) (hs : z_allS sh.length sh = true) (ha : z_all sh.length loc r = true) (hm : gt m' = va_up (gt m) sh.length g)
    (hP : va_P D zCl (z_W A cA sh (gt m) ++ [(q, z_cell (va_up A sh.length q) cA e1 g)]) H1) (hD : va_D F (z_W A cA sh (gt m) ++ [(q, z_cell (va_up A sh.length q) cA e1 g)])) (hS : va_S F H0 H1 locs1) :
    W p l e R s mi args below meth c H1 locs1 kc' ks' Q (F0 mi pc' ls (.ref q :: r.map (z_val A))) := by
  unfold z_all at ha
  rw [Bool.and_eq_true] at ha
  have hg := z_ag_up (q := q) (A := A) hn
  have := kk (va_up A sh.length q) ls H1 locs1 hg (by simp) (fun h => by simp at h) (hl.ag hg ha.1) ⟨by
    show va_P D zCl (z_W (va_up A sh.length q) cA (sh ++ [e1]) (gt m')) H1
    rw [hm, z_W_a hn hs]
    exact hP, by
    show va_D F (z_W (va_up A sh.length q) cA (sh ++ [e1]) (gt m'))
    rw [hm, z_W_a hn hs]
    exact hD, hS⟩ hk
  rw [List.map_cons, z_vals_ag hg ha.2] at this
  have e1 : z_val (va_up A sh.length q) (.ref sh.length) = .ref q := by simp [z_val, va_up]
  rw [e1] at this
  exact this
theorem z_s_iconst {n : Int} (L : z_laws gt st nw cp) (hC : ∀ ci kd, z_at zCT ci = some kd → z_clsP ci kd) (hCast : ∀ ci, z_cast ci = true → ∃ C T N, zCl[ci]? = some (C, T, N) ∧ C ∈ zCN) (X : z_fix p s mi args meth c own ini cc nL) (hK : va_K D zCl (z_ty cA) s) (hA : ∀ q, H0.size ≤ q → F q) (hR : 1 ≤ R.frames ∧ 32 ≤ R.locals ∧ mc ≤ R.cells ∧ ms ≤ R.slots)
    (hscr : ∀ L xs, scr = some (L, xs) → va_X (A 1000000) L xs s H0 ∧ A 1000000 < H0.size ∧ ¬ F (A 1000000)) (hk : kc ≤ mc ∧ ks ≤ ms) (hl : z_Loc A loc ls nL) (hw : z_wd D cA F H0 A sh (gt m) H locs)
    (hE : z_okE own oc ini cc (pc, .iconst n, x, y)) (h : z_step gt st nw cp mc ms scr (pc, .iconst n, x, y) loc stk sh m kc ks = some t) (kk : z_K gt p l e R s mi args below meth c Q nL D cA F H0 mc ms A sh t) : W p l e R s mi args below meth c H locs kc ks Q (F0 mi pc ls (stk.map (z_val A))) := by
  obtain ⟨hx, hb, hml, hown, hts, hN, hini⟩ := X
  obtain ⟨hdg, -⟩ := hE
  cases h
  exact lv_iconst hx hb hdg rfl (kk.stay hl hw hk)
theorem z_s_bipush {n : Int} (L : z_laws gt st nw cp) (hC : ∀ ci kd, z_at zCT ci = some kd → z_clsP ci kd) (hCast : ∀ ci, z_cast ci = true → ∃ C T N, zCl[ci]? = some (C, T, N) ∧ C ∈ zCN) (X : z_fix p s mi args meth c own ini cc nL) (hK : va_K D zCl (z_ty cA) s) (hA : ∀ q, H0.size ≤ q → F q) (hR : 1 ≤ R.frames ∧ 32 ≤ R.locals ∧ mc ≤ R.cells ∧ ms ≤ R.slots)
    (hscr : ∀ L xs, scr = some (L, xs) → va_X (A 1000000) L xs s H0 ∧ A 1000000 < H0.size ∧ ¬ F (A 1000000)) (hk : kc ≤ mc ∧ ks ≤ ms) (hl : z_Loc A loc ls nL) (hw : z_wd D cA F H0 A sh (gt m) H locs)
    (hE : z_okE own oc ini cc (pc, .bipush n, x, y)) (h : z_step gt st nw cp mc ms scr (pc, .bipush n, x, y) loc stk sh m kc ks = some t) (kk : z_K gt p l e R s mi args below meth c Q nL D cA F H0 mc ms A sh t) : W p l e R s mi args below meth c H locs kc ks Q (F0 mi pc ls (stk.map (z_val A))) := by
  obtain ⟨hx, hb, hml, hown, hts, hN, hini⟩ := X
  obtain ⟨hdg, -⟩ := hE
  cases h
  exact lv_bipush hx hb hdg rfl (kk.stay hl hw hk)
theorem z_s_sipush {n : Int} (L : z_laws gt st nw cp) (hC : ∀ ci kd, z_at zCT ci = some kd → z_clsP ci kd) (hCast : ∀ ci, z_cast ci = true → ∃ C T N, zCl[ci]? = some (C, T, N) ∧ C ∈ zCN) (X : z_fix p s mi args meth c own ini cc nL) (hK : va_K D zCl (z_ty cA) s) (hA : ∀ q, H0.size ≤ q → F q) (hR : 1 ≤ R.frames ∧ 32 ≤ R.locals ∧ mc ≤ R.cells ∧ ms ≤ R.slots)
    (hscr : ∀ L xs, scr = some (L, xs) → va_X (A 1000000) L xs s H0 ∧ A 1000000 < H0.size ∧ ¬ F (A 1000000)) (hk : kc ≤ mc ∧ ks ≤ ms) (hl : z_Loc A loc ls nL) (hw : z_wd D cA F H0 A sh (gt m) H locs)
    (hE : z_okE own oc ini cc (pc, .sipush n, x, y)) (h : z_step gt st nw cp mc ms scr (pc, .sipush n, x, y) loc stk sh m kc ks = some t) (kk : z_K gt p l e R s mi args below meth c Q nL D cA F H0 mc ms A sh t) : W p l e R s mi args below meth c H locs kc ks Q (F0 mi pc ls (stk.map (z_val A))) := by
  obtain ⟨hx, hb, hml, hown, hts, hN, hini⟩ := X
  obtain ⟨hdg, -⟩ := hE
  cases h
  exact lv_sipush hx hb hdg rfl (kk.stay hl hw hk)
theorem z_s_ldc2 {n : Nat} (L : z_laws gt st nw cp) (hC : ∀ ci kd, z_at zCT ci = some kd → z_clsP ci kd) (hCast : ∀ ci, z_cast ci = true → ∃ C T N, zCl[ci]? = some (C, T, N) ∧ C ∈ zCN) (X : z_fix p s mi args meth c own ini cc nL) (hK : va_K D zCl (z_ty cA) s) (hA : ∀ q, H0.size ≤ q → F q) (hR : 1 ≤ R.frames ∧ 32 ≤ R.locals ∧ mc ≤ R.cells ∧ ms ≤ R.slots)
    (hscr : ∀ L xs, scr = some (L, xs) → va_X (A 1000000) L xs s H0 ∧ A 1000000 < H0.size ∧ ¬ F (A 1000000)) (hk : kc ≤ mc ∧ ks ≤ ms) (hl : z_Loc A loc ls nL) (hw : z_wd D cA F H0 A sh (gt m) H locs)
    (hE : z_okE own oc ini cc (pc, .ldc2_w n, x, y)) (h : z_step gt st nw cp mc ms scr (pc, .ldc2_w n, x, y) loc stk sh m kc ks = some t) (kk : z_K gt p l e R s mi args below meth c Q nL D cA F H0 mc ms A sh t) : W p l e R s mi args below meth c H locs kc ks Q (F0 mi pc ls (stk.map (z_val A))) := by
  obtain ⟨hx, hb, hml, hown, hts, hN, hini⟩ := X
  obtain ⟨hdg, hc⟩ := hE
  cases h
  exact lv_ldc2 hx hb hown (hts _ hc) hdg (kk.stay hl hw hk)
theorem z_s_iload {n : Nat} (L : z_laws gt st nw cp) (hC : ∀ ci kd, z_at zCT ci = some kd → z_clsP ci kd) (hCast : ∀ ci, z_cast ci = true → ∃ C T N, zCl[ci]? = some (C, T, N) ∧ C ∈ zCN) (X : z_fix p s mi args meth c own ini cc nL) (hK : va_K D zCl (z_ty cA) s) (hA : ∀ q, H0.size ≤ q → F q) (hR : 1 ≤ R.frames ∧ 32 ≤ R.locals ∧ mc ≤ R.cells ∧ ms ≤ R.slots)
    (hscr : ∀ L xs, scr = some (L, xs) → va_X (A 1000000) L xs s H0 ∧ A 1000000 < H0.size ∧ ¬ F (A 1000000)) (hk : kc ≤ mc ∧ ks ≤ ms) (hl : z_Loc A loc ls nL) (hw : z_wd D cA F H0 A sh (gt m) H locs)
    (hE : z_okE own oc ini cc (pc, .iload n, x, y)) (h : z_step gt st nw cp mc ms scr (pc, .iload n, x, y) loc stk sh m kc ks = some t) (kk : z_K gt p l e R s mi args below meth c Q nL D cA F H0 mc ms A sh t) : W p l e R s mi args below meth c H locs kc ks Q (F0 mi pc ls (stk.map (z_val A))) := by
  obtain ⟨hx, hb, hml, hown, hts, hN, hini⟩ := X
  obtain ⟨hdg, -⟩ := hE
  replace h := z_ldi_v h
  obtain ⟨v, h1, h⟩ := h
  cases h
  exact lv_iload hx hb hdg (hl.2.2.2 _ _ h1) (kk.stay hl hw hk)
theorem z_s_iload_n {n : Fin 4} (L : z_laws gt st nw cp) (hC : ∀ ci kd, z_at zCT ci = some kd → z_clsP ci kd) (hCast : ∀ ci, z_cast ci = true → ∃ C T N, zCl[ci]? = some (C, T, N) ∧ C ∈ zCN) (X : z_fix p s mi args meth c own ini cc nL) (hK : va_K D zCl (z_ty cA) s) (hA : ∀ q, H0.size ≤ q → F q) (hR : 1 ≤ R.frames ∧ 32 ≤ R.locals ∧ mc ≤ R.cells ∧ ms ≤ R.slots)
    (hscr : ∀ L xs, scr = some (L, xs) → va_X (A 1000000) L xs s H0 ∧ A 1000000 < H0.size ∧ ¬ F (A 1000000)) (hk : kc ≤ mc ∧ ks ≤ ms) (hl : z_Loc A loc ls nL) (hw : z_wd D cA F H0 A sh (gt m) H locs)
    (hE : z_okE own oc ini cc (pc, .iload_n n, x, y)) (h : z_step gt st nw cp mc ms scr (pc, .iload_n n, x, y) loc stk sh m kc ks = some t) (kk : z_K gt p l e R s mi args below meth c Q nL D cA F H0 mc ms A sh t) : W p l e R s mi args below meth c H locs kc ks Q (F0 mi pc ls (stk.map (z_val A))) := by
  obtain ⟨hx, hb, hml, hown, hts, hN, hini⟩ := X
  obtain ⟨hdg, -⟩ := hE
  replace h := z_ldi_v h
  obtain ⟨v, h1, h⟩ := h
  cases h
  exact lv_iload_n hx hb hdg rfl (hl.2.2.2 _ _ h1) (kk.stay hl hw hk)
theorem z_s_lload {n : Nat} (L : z_laws gt st nw cp) (hC : ∀ ci kd, z_at zCT ci = some kd → z_clsP ci kd) (hCast : ∀ ci, z_cast ci = true → ∃ C T N, zCl[ci]? = some (C, T, N) ∧ C ∈ zCN) (X : z_fix p s mi args meth c own ini cc nL) (hK : va_K D zCl (z_ty cA) s) (hA : ∀ q, H0.size ≤ q → F q) (hR : 1 ≤ R.frames ∧ 32 ≤ R.locals ∧ mc ≤ R.cells ∧ ms ≤ R.slots)
    (hscr : ∀ L xs, scr = some (L, xs) → va_X (A 1000000) L xs s H0 ∧ A 1000000 < H0.size ∧ ¬ F (A 1000000)) (hk : kc ≤ mc ∧ ks ≤ ms) (hl : z_Loc A loc ls nL) (hw : z_wd D cA F H0 A sh (gt m) H locs)
    (hE : z_okE own oc ini cc (pc, .lload n, x, y)) (h : z_step gt st nw cp mc ms scr (pc, .lload n, x, y) loc stk sh m kc ks = some t) (kk : z_K gt p l e R s mi args below meth c Q nL D cA F H0 mc ms A sh t) : W p l e R s mi args below meth c H locs kc ks Q (F0 mi pc ls (stk.map (z_val A))) := by
  obtain ⟨hx, hb, hml, hown, hts, hN, hini⟩ := X
  obtain ⟨hdg, -⟩ := hE
  replace h := z_ldl_v h
  obtain ⟨v, h1, h⟩ := h
  cases h
  exact lv_lload hx hb hdg (hl.2.2.2 _ _ h1) (kk.stay hl hw hk)
theorem z_s_lload_n {n : Fin 4} (L : z_laws gt st nw cp) (hC : ∀ ci kd, z_at zCT ci = some kd → z_clsP ci kd) (hCast : ∀ ci, z_cast ci = true → ∃ C T N, zCl[ci]? = some (C, T, N) ∧ C ∈ zCN) (X : z_fix p s mi args meth c own ini cc nL) (hK : va_K D zCl (z_ty cA) s) (hA : ∀ q, H0.size ≤ q → F q) (hR : 1 ≤ R.frames ∧ 32 ≤ R.locals ∧ mc ≤ R.cells ∧ ms ≤ R.slots)
    (hscr : ∀ L xs, scr = some (L, xs) → va_X (A 1000000) L xs s H0 ∧ A 1000000 < H0.size ∧ ¬ F (A 1000000)) (hk : kc ≤ mc ∧ ks ≤ ms) (hl : z_Loc A loc ls nL) (hw : z_wd D cA F H0 A sh (gt m) H locs)
    (hE : z_okE own oc ini cc (pc, .lload_n n, x, y)) (h : z_step gt st nw cp mc ms scr (pc, .lload_n n, x, y) loc stk sh m kc ks = some t) (kk : z_K gt p l e R s mi args below meth c Q nL D cA F H0 mc ms A sh t) : W p l e R s mi args below meth c H locs kc ks Q (F0 mi pc ls (stk.map (z_val A))) := by
  obtain ⟨hx, hb, hml, hown, hts, hN, hini⟩ := X
  obtain ⟨hdg, -⟩ := hE
  replace h := z_ldl_v h
  obtain ⟨v, h1, h⟩ := h
  cases h
  exact lv_lload_n hx hb hdg rfl (hl.2.2.2 _ _ h1) (kk.stay hl hw hk)
theorem z_s_aload {n : Nat} (L : z_laws gt st nw cp) (hC : ∀ ci kd, z_at zCT ci = some kd → z_clsP ci kd) (hCast : ∀ ci, z_cast ci = true → ∃ C T N, zCl[ci]? = some (C, T, N) ∧ C ∈ zCN) (X : z_fix p s mi args meth c own ini cc nL) (hK : va_K D zCl (z_ty cA) s) (hA : ∀ q, H0.size ≤ q → F q) (hR : 1 ≤ R.frames ∧ 32 ≤ R.locals ∧ mc ≤ R.cells ∧ ms ≤ R.slots)
    (hscr : ∀ L xs, scr = some (L, xs) → va_X (A 1000000) L xs s H0 ∧ A 1000000 < H0.size ∧ ¬ F (A 1000000)) (hk : kc ≤ mc ∧ ks ≤ ms) (hl : z_Loc A loc ls nL) (hw : z_wd D cA F H0 A sh (gt m) H locs)
    (hE : z_okE own oc ini cc (pc, .aload n, x, y)) (h : z_step gt st nw cp mc ms scr (pc, .aload n, x, y) loc stk sh m kc ks = some t) (kk : z_K gt p l e R s mi args below meth c Q nL D cA F H0 mc ms A sh t) : W p l e R s mi args below meth c H locs kc ks Q (F0 mi pc ls (stk.map (z_val A))) := by
  obtain ⟨hx, hb, hml, hown, hts, hN, hini⟩ := X
  obtain ⟨hdg, -⟩ := hE
  replace h := z_ldr_v h
  obtain ⟨v, h1, h⟩ := h
  cases h
  exact lv_aload hx hb hdg (hl.2.2.2 _ _ h1) (kk.stay hl hw hk)
theorem z_s_aload_n {n : Fin 4} (L : z_laws gt st nw cp) (hC : ∀ ci kd, z_at zCT ci = some kd → z_clsP ci kd) (hCast : ∀ ci, z_cast ci = true → ∃ C T N, zCl[ci]? = some (C, T, N) ∧ C ∈ zCN) (X : z_fix p s mi args meth c own ini cc nL) (hK : va_K D zCl (z_ty cA) s) (hA : ∀ q, H0.size ≤ q → F q) (hR : 1 ≤ R.frames ∧ 32 ≤ R.locals ∧ mc ≤ R.cells ∧ ms ≤ R.slots)
    (hscr : ∀ L xs, scr = some (L, xs) → va_X (A 1000000) L xs s H0 ∧ A 1000000 < H0.size ∧ ¬ F (A 1000000)) (hk : kc ≤ mc ∧ ks ≤ ms) (hl : z_Loc A loc ls nL) (hw : z_wd D cA F H0 A sh (gt m) H locs)
    (hE : z_okE own oc ini cc (pc, .aload_n n, x, y)) (h : z_step gt st nw cp mc ms scr (pc, .aload_n n, x, y) loc stk sh m kc ks = some t) (kk : z_K gt p l e R s mi args below meth c Q nL D cA F H0 mc ms A sh t) : W p l e R s mi args below meth c H locs kc ks Q (F0 mi pc ls (stk.map (z_val A))) := by
  obtain ⟨hx, hb, hml, hown, hts, hN, hini⟩ := X
  obtain ⟨hdg, -⟩ := hE
  replace h := z_ldr_v h
  obtain ⟨v, h1, h⟩ := h
  cases h
  exact lv_aload_n hx hb hdg rfl (hl.2.2.2 _ _ h1) (kk.stay hl hw hk)
theorem z_s_istore {n : Nat} (L : z_laws gt st nw cp) (hC : ∀ ci kd, z_at zCT ci = some kd → z_clsP ci kd) (hCast : ∀ ci, z_cast ci = true → ∃ C T N, zCl[ci]? = some (C, T, N) ∧ C ∈ zCN) (X : z_fix p s mi args meth c own ini cc nL) (hK : va_K D zCl (z_ty cA) s) (hA : ∀ q, H0.size ≤ q → F q) (hR : 1 ≤ R.frames ∧ 32 ≤ R.locals ∧ mc ≤ R.cells ∧ ms ≤ R.slots)
    (hscr : ∀ L xs, scr = some (L, xs) → va_X (A 1000000) L xs s H0 ∧ A 1000000 < H0.size ∧ ¬ F (A 1000000)) (hk : kc ≤ mc ∧ ks ≤ ms) (hl : z_Loc A loc ls nL) (hw : z_wd D cA F H0 A sh (gt m) H locs)
    (hE : z_okE own oc ini cc (pc, .istore n, x, y)) (h : z_step gt st nw cp mc ms scr (pc, .istore n, x, y) loc stk sh m kc ks = some t) (kk : z_K gt p l e R s mi args below meth c Q nL D cA F H0 mc ms A sh t) : W p l e R s mi args below meth c H locs kc ks Q (F0 mi pc ls (stk.map (z_val A))) := by
  obtain ⟨hx, hb, hml, hown, hts, hN, hini⟩ := X
  obtain ⟨hdg, -⟩ := hE
  replace h := z_i_v h
  obtain ⟨v, r, rfl, h⟩ := h
  replace h := z_sto_v h
  obtain ⟨h1, h2, h⟩ := h
  cases h
  exact lv_istore hx hb hdg hl.has (by rw [← hl.2.1]; exact h1) rfl (fun ls' h' => kk.sto (v := .int v) hl hw hk h1 h2 h')
theorem z_s_istore_n {n : Fin 4} (L : z_laws gt st nw cp) (hC : ∀ ci kd, z_at zCT ci = some kd → z_clsP ci kd) (hCast : ∀ ci, z_cast ci = true → ∃ C T N, zCl[ci]? = some (C, T, N) ∧ C ∈ zCN) (X : z_fix p s mi args meth c own ini cc nL) (hK : va_K D zCl (z_ty cA) s) (hA : ∀ q, H0.size ≤ q → F q) (hR : 1 ≤ R.frames ∧ 32 ≤ R.locals ∧ mc ≤ R.cells ∧ ms ≤ R.slots)
    (hscr : ∀ L xs, scr = some (L, xs) → va_X (A 1000000) L xs s H0 ∧ A 1000000 < H0.size ∧ ¬ F (A 1000000)) (hk : kc ≤ mc ∧ ks ≤ ms) (hl : z_Loc A loc ls nL) (hw : z_wd D cA F H0 A sh (gt m) H locs)
    (hE : z_okE own oc ini cc (pc, .istore_n n, x, y)) (h : z_step gt st nw cp mc ms scr (pc, .istore_n n, x, y) loc stk sh m kc ks = some t) (kk : z_K gt p l e R s mi args below meth c Q nL D cA F H0 mc ms A sh t) : W p l e R s mi args below meth c H locs kc ks Q (F0 mi pc ls (stk.map (z_val A))) := by
  obtain ⟨hx, hb, hml, hown, hts, hN, hini⟩ := X
  obtain ⟨hdg, -⟩ := hE
  replace h := z_i_v h
  obtain ⟨v, r, rfl, h⟩ := h
  replace h := z_sto_v h
  obtain ⟨h1, h2, h⟩ := h
  cases h
  exact lv_istore_n hx hb hdg rfl hl.has (by rw [← hl.2.1]; exact h1) rfl (fun ls' h' => kk.sto (v := .int v) hl hw hk h1 h2 h')
theorem z_s_astore {n : Nat} (L : z_laws gt st nw cp) (hC : ∀ ci kd, z_at zCT ci = some kd → z_clsP ci kd) (hCast : ∀ ci, z_cast ci = true → ∃ C T N, zCl[ci]? = some (C, T, N) ∧ C ∈ zCN) (X : z_fix p s mi args meth c own ini cc nL) (hK : va_K D zCl (z_ty cA) s) (hA : ∀ q, H0.size ≤ q → F q) (hR : 1 ≤ R.frames ∧ 32 ≤ R.locals ∧ mc ≤ R.cells ∧ ms ≤ R.slots)
    (hscr : ∀ L xs, scr = some (L, xs) → va_X (A 1000000) L xs s H0 ∧ A 1000000 < H0.size ∧ ¬ F (A 1000000)) (hk : kc ≤ mc ∧ ks ≤ ms) (hl : z_Loc A loc ls nL) (hw : z_wd D cA F H0 A sh (gt m) H locs)
    (hE : z_okE own oc ini cc (pc, .astore n, x, y)) (h : z_step gt st nw cp mc ms scr (pc, .astore n, x, y) loc stk sh m kc ks = some t) (kk : z_K gt p l e R s mi args below meth c Q nL D cA F H0 mc ms A sh t) : W p l e R s mi args below meth c H locs kc ks Q (F0 mi pc ls (stk.map (z_val A))) := by
  obtain ⟨hx, hb, hml, hown, hts, hN, hini⟩ := X
  obtain ⟨hdg, -⟩ := hE
  replace h := z_r_v h
  obtain ⟨v, r, rfl, h⟩ := h
  replace h := z_sto_v h
  obtain ⟨h1, h2, h⟩ := h
  cases h
  exact lv_astore hx hb hdg hl.has (by rw [← hl.2.1]; exact h1) rfl (fun ls' h' => kk.sto (v := .ref v) hl hw hk h1 h2 h')
theorem z_s_astore_n {n : Fin 4} (L : z_laws gt st nw cp) (hC : ∀ ci kd, z_at zCT ci = some kd → z_clsP ci kd) (hCast : ∀ ci, z_cast ci = true → ∃ C T N, zCl[ci]? = some (C, T, N) ∧ C ∈ zCN) (X : z_fix p s mi args meth c own ini cc nL) (hK : va_K D zCl (z_ty cA) s) (hA : ∀ q, H0.size ≤ q → F q) (hR : 1 ≤ R.frames ∧ 32 ≤ R.locals ∧ mc ≤ R.cells ∧ ms ≤ R.slots)
    (hscr : ∀ L xs, scr = some (L, xs) → va_X (A 1000000) L xs s H0 ∧ A 1000000 < H0.size ∧ ¬ F (A 1000000)) (hk : kc ≤ mc ∧ ks ≤ ms) (hl : z_Loc A loc ls nL) (hw : z_wd D cA F H0 A sh (gt m) H locs)
    (hE : z_okE own oc ini cc (pc, .astore_n n, x, y)) (h : z_step gt st nw cp mc ms scr (pc, .astore_n n, x, y) loc stk sh m kc ks = some t) (kk : z_K gt p l e R s mi args below meth c Q nL D cA F H0 mc ms A sh t) : W p l e R s mi args below meth c H locs kc ks Q (F0 mi pc ls (stk.map (z_val A))) := by
  obtain ⟨hx, hb, hml, hown, hts, hN, hini⟩ := X
  obtain ⟨hdg, -⟩ := hE
  replace h := z_r_v h
  obtain ⟨v, r, rfl, h⟩ := h
  replace h := z_sto_v h
  obtain ⟨h1, h2, h⟩ := h
  cases h
  exact lv_astore_n hx hb hdg rfl hl.has (by rw [← hl.2.1]; exact h1) rfl (fun ls' h' => kk.sto (v := .ref v) hl hw hk h1 h2 h')
theorem z_s_iinc {n : Nat} {k : Int} (L : z_laws gt st nw cp) (hC : ∀ ci kd, z_at zCT ci = some kd → z_clsP ci kd) (hCast : ∀ ci, z_cast ci = true → ∃ C T N, zCl[ci]? = some (C, T, N) ∧ C ∈ zCN) (X : z_fix p s mi args meth c own ini cc nL) (hK : va_K D zCl (z_ty cA) s) (hA : ∀ q, H0.size ≤ q → F q) (hR : 1 ≤ R.frames ∧ 32 ≤ R.locals ∧ mc ≤ R.cells ∧ ms ≤ R.slots)
    (hscr : ∀ L xs, scr = some (L, xs) → va_X (A 1000000) L xs s H0 ∧ A 1000000 < H0.size ∧ ¬ F (A 1000000)) (hk : kc ≤ mc ∧ ks ≤ ms) (hl : z_Loc A loc ls nL) (hw : z_wd D cA F H0 A sh (gt m) H locs)
    (hE : z_okE own oc ini cc (pc, .iinc n k, x, y)) (h : z_step gt st nw cp mc ms scr (pc, .iinc n k, x, y) loc stk sh m kc ks = some t) (kk : z_K gt p l e R s mi args below meth c Q nL D cA F H0 mc ms A sh t) : W p l e R s mi args below meth c H locs kc ks Q (F0 mi pc ls (stk.map (z_val A))) := by
  obtain ⟨hx, hb, hml, hown, hts, hN, hini⟩ := X
  obtain ⟨hdg, -⟩ := hE
  replace h := z_ldi_v h
  obtain ⟨v, h0, h⟩ := h
  replace h := z_sto_v h
  obtain ⟨h1, h2, h⟩ := h
  cases h
  have hm : ((n, Value.int v) : Nat × Value) ∈ z_as A loc := z_as_in.mpr ⟨_, h0, rfl⟩
  obtain ⟨j, hj⟩ := List.getElem?_of_mem hm
  exact lv_iinc hx hb hdg hl.has hj rfl (by rw [← hl.2.1]; exact h1) rfl (fun ls' h' => kk.sto (v := .int (v + Int32.ofInt k)) hl hw hk h1 h2 h')
theorem z_s_iadd (L : z_laws gt st nw cp) (hC : ∀ ci kd, z_at zCT ci = some kd → z_clsP ci kd) (hCast : ∀ ci, z_cast ci = true → ∃ C T N, zCl[ci]? = some (C, T, N) ∧ C ∈ zCN) (X : z_fix p s mi args meth c own ini cc nL) (hK : va_K D zCl (z_ty cA) s) (hA : ∀ q, H0.size ≤ q → F q) (hR : 1 ≤ R.frames ∧ 32 ≤ R.locals ∧ mc ≤ R.cells ∧ ms ≤ R.slots)
    (hscr : ∀ L xs, scr = some (L, xs) → va_X (A 1000000) L xs s H0 ∧ A 1000000 < H0.size ∧ ¬ F (A 1000000)) (hk : kc ≤ mc ∧ ks ≤ ms) (hl : z_Loc A loc ls nL) (hw : z_wd D cA F H0 A sh (gt m) H locs)
    (hE : z_okE own oc ini cc (pc, .iadd, x, y)) (h : z_step gt st nw cp mc ms scr (pc, .iadd, x, y) loc stk sh m kc ks = some t) (kk : z_K gt p l e R s mi args below meth c Q nL D cA F H0 mc ms A sh t) : W p l e R s mi args below meth c H locs kc ks Q (F0 mi pc ls (stk.map (z_val A))) := by
  obtain ⟨hx, hb, hml, hown, hts, hN, hini⟩ := X
  obtain ⟨hdg, -⟩ := hE
  replace h := z_i_v h
  obtain ⟨b, r, rfl, h⟩ := h
  replace h := z_i_v h
  obtain ⟨a, r, rfl, h⟩ := h
  cases h
  exact lv_iadd hx hb hdg (kk.stay hl hw hk)
theorem z_s_isub (L : z_laws gt st nw cp) (hC : ∀ ci kd, z_at zCT ci = some kd → z_clsP ci kd) (hCast : ∀ ci, z_cast ci = true → ∃ C T N, zCl[ci]? = some (C, T, N) ∧ C ∈ zCN) (X : z_fix p s mi args meth c own ini cc nL) (hK : va_K D zCl (z_ty cA) s) (hA : ∀ q, H0.size ≤ q → F q) (hR : 1 ≤ R.frames ∧ 32 ≤ R.locals ∧ mc ≤ R.cells ∧ ms ≤ R.slots)
    (hscr : ∀ L xs, scr = some (L, xs) → va_X (A 1000000) L xs s H0 ∧ A 1000000 < H0.size ∧ ¬ F (A 1000000)) (hk : kc ≤ mc ∧ ks ≤ ms) (hl : z_Loc A loc ls nL) (hw : z_wd D cA F H0 A sh (gt m) H locs)
    (hE : z_okE own oc ini cc (pc, .isub, x, y)) (h : z_step gt st nw cp mc ms scr (pc, .isub, x, y) loc stk sh m kc ks = some t) (kk : z_K gt p l e R s mi args below meth c Q nL D cA F H0 mc ms A sh t) : W p l e R s mi args below meth c H locs kc ks Q (F0 mi pc ls (stk.map (z_val A))) := by
  obtain ⟨hx, hb, hml, hown, hts, hN, hini⟩ := X
  obtain ⟨hdg, -⟩ := hE
  replace h := z_i_v h
  obtain ⟨b, r, rfl, h⟩ := h
  replace h := z_i_v h
  obtain ⟨a, r, rfl, h⟩ := h
  cases h
  exact lv_isub hx hb hdg (kk.stay hl hw hk)
theorem z_s_imul (L : z_laws gt st nw cp) (hC : ∀ ci kd, z_at zCT ci = some kd → z_clsP ci kd) (hCast : ∀ ci, z_cast ci = true → ∃ C T N, zCl[ci]? = some (C, T, N) ∧ C ∈ zCN) (X : z_fix p s mi args meth c own ini cc nL) (hK : va_K D zCl (z_ty cA) s) (hA : ∀ q, H0.size ≤ q → F q) (hR : 1 ≤ R.frames ∧ 32 ≤ R.locals ∧ mc ≤ R.cells ∧ ms ≤ R.slots)
    (hscr : ∀ L xs, scr = some (L, xs) → va_X (A 1000000) L xs s H0 ∧ A 1000000 < H0.size ∧ ¬ F (A 1000000)) (hk : kc ≤ mc ∧ ks ≤ ms) (hl : z_Loc A loc ls nL) (hw : z_wd D cA F H0 A sh (gt m) H locs)
    (hE : z_okE own oc ini cc (pc, .imul, x, y)) (h : z_step gt st nw cp mc ms scr (pc, .imul, x, y) loc stk sh m kc ks = some t) (kk : z_K gt p l e R s mi args below meth c Q nL D cA F H0 mc ms A sh t) : W p l e R s mi args below meth c H locs kc ks Q (F0 mi pc ls (stk.map (z_val A))) := by
  obtain ⟨hx, hb, hml, hown, hts, hN, hini⟩ := X
  obtain ⟨hdg, -⟩ := hE
  replace h := z_i_v h
  obtain ⟨b, r, rfl, h⟩ := h
  replace h := z_i_v h
  obtain ⟨a, r, rfl, h⟩ := h
  cases h
  exact lv_imul hx hb hdg (kk.stay hl hw hk)
theorem z_s_iand (L : z_laws gt st nw cp) (hC : ∀ ci kd, z_at zCT ci = some kd → z_clsP ci kd) (hCast : ∀ ci, z_cast ci = true → ∃ C T N, zCl[ci]? = some (C, T, N) ∧ C ∈ zCN) (X : z_fix p s mi args meth c own ini cc nL) (hK : va_K D zCl (z_ty cA) s) (hA : ∀ q, H0.size ≤ q → F q) (hR : 1 ≤ R.frames ∧ 32 ≤ R.locals ∧ mc ≤ R.cells ∧ ms ≤ R.slots)
    (hscr : ∀ L xs, scr = some (L, xs) → va_X (A 1000000) L xs s H0 ∧ A 1000000 < H0.size ∧ ¬ F (A 1000000)) (hk : kc ≤ mc ∧ ks ≤ ms) (hl : z_Loc A loc ls nL) (hw : z_wd D cA F H0 A sh (gt m) H locs)
    (hE : z_okE own oc ini cc (pc, .iand, x, y)) (h : z_step gt st nw cp mc ms scr (pc, .iand, x, y) loc stk sh m kc ks = some t) (kk : z_K gt p l e R s mi args below meth c Q nL D cA F H0 mc ms A sh t) : W p l e R s mi args below meth c H locs kc ks Q (F0 mi pc ls (stk.map (z_val A))) := by
  obtain ⟨hx, hb, hml, hown, hts, hN, hini⟩ := X
  obtain ⟨hdg, -⟩ := hE
  replace h := z_i_v h
  obtain ⟨b, r, rfl, h⟩ := h
  replace h := z_i_v h
  obtain ⟨a, r, rfl, h⟩ := h
  cases h
  exact lv_iand hx hb hdg (kk.stay hl hw hk)
theorem z_s_ior (L : z_laws gt st nw cp) (hC : ∀ ci kd, z_at zCT ci = some kd → z_clsP ci kd) (hCast : ∀ ci, z_cast ci = true → ∃ C T N, zCl[ci]? = some (C, T, N) ∧ C ∈ zCN) (X : z_fix p s mi args meth c own ini cc nL) (hK : va_K D zCl (z_ty cA) s) (hA : ∀ q, H0.size ≤ q → F q) (hR : 1 ≤ R.frames ∧ 32 ≤ R.locals ∧ mc ≤ R.cells ∧ ms ≤ R.slots)
    (hscr : ∀ L xs, scr = some (L, xs) → va_X (A 1000000) L xs s H0 ∧ A 1000000 < H0.size ∧ ¬ F (A 1000000)) (hk : kc ≤ mc ∧ ks ≤ ms) (hl : z_Loc A loc ls nL) (hw : z_wd D cA F H0 A sh (gt m) H locs)
    (hE : z_okE own oc ini cc (pc, .ior, x, y)) (h : z_step gt st nw cp mc ms scr (pc, .ior, x, y) loc stk sh m kc ks = some t) (kk : z_K gt p l e R s mi args below meth c Q nL D cA F H0 mc ms A sh t) : W p l e R s mi args below meth c H locs kc ks Q (F0 mi pc ls (stk.map (z_val A))) := by
  obtain ⟨hx, hb, hml, hown, hts, hN, hini⟩ := X
  obtain ⟨hdg, -⟩ := hE
  replace h := z_i_v h
  obtain ⟨b, r, rfl, h⟩ := h
  replace h := z_i_v h
  obtain ⟨a, r, rfl, h⟩ := h
  cases h
  exact lv_ior hx hb hdg (kk.stay hl hw hk)
theorem z_s_ixor (L : z_laws gt st nw cp) (hC : ∀ ci kd, z_at zCT ci = some kd → z_clsP ci kd) (hCast : ∀ ci, z_cast ci = true → ∃ C T N, zCl[ci]? = some (C, T, N) ∧ C ∈ zCN) (X : z_fix p s mi args meth c own ini cc nL) (hK : va_K D zCl (z_ty cA) s) (hA : ∀ q, H0.size ≤ q → F q) (hR : 1 ≤ R.frames ∧ 32 ≤ R.locals ∧ mc ≤ R.cells ∧ ms ≤ R.slots)
    (hscr : ∀ L xs, scr = some (L, xs) → va_X (A 1000000) L xs s H0 ∧ A 1000000 < H0.size ∧ ¬ F (A 1000000)) (hk : kc ≤ mc ∧ ks ≤ ms) (hl : z_Loc A loc ls nL) (hw : z_wd D cA F H0 A sh (gt m) H locs)
    (hE : z_okE own oc ini cc (pc, .ixor, x, y)) (h : z_step gt st nw cp mc ms scr (pc, .ixor, x, y) loc stk sh m kc ks = some t) (kk : z_K gt p l e R s mi args below meth c Q nL D cA F H0 mc ms A sh t) : W p l e R s mi args below meth c H locs kc ks Q (F0 mi pc ls (stk.map (z_val A))) := by
  obtain ⟨hx, hb, hml, hown, hts, hN, hini⟩ := X
  obtain ⟨hdg, -⟩ := hE
  replace h := z_i_v h
  obtain ⟨b, r, rfl, h⟩ := h
  replace h := z_i_v h
  obtain ⟨a, r, rfl, h⟩ := h
  cases h
  exact lv_ixor hx hb hdg (kk.stay hl hw hk)
theorem z_s_ishl (L : z_laws gt st nw cp) (hC : ∀ ci kd, z_at zCT ci = some kd → z_clsP ci kd) (hCast : ∀ ci, z_cast ci = true → ∃ C T N, zCl[ci]? = some (C, T, N) ∧ C ∈ zCN) (X : z_fix p s mi args meth c own ini cc nL) (hK : va_K D zCl (z_ty cA) s) (hA : ∀ q, H0.size ≤ q → F q) (hR : 1 ≤ R.frames ∧ 32 ≤ R.locals ∧ mc ≤ R.cells ∧ ms ≤ R.slots)
    (hscr : ∀ L xs, scr = some (L, xs) → va_X (A 1000000) L xs s H0 ∧ A 1000000 < H0.size ∧ ¬ F (A 1000000)) (hk : kc ≤ mc ∧ ks ≤ ms) (hl : z_Loc A loc ls nL) (hw : z_wd D cA F H0 A sh (gt m) H locs)
    (hE : z_okE own oc ini cc (pc, .ishl, x, y)) (h : z_step gt st nw cp mc ms scr (pc, .ishl, x, y) loc stk sh m kc ks = some t) (kk : z_K gt p l e R s mi args below meth c Q nL D cA F H0 mc ms A sh t) : W p l e R s mi args below meth c H locs kc ks Q (F0 mi pc ls (stk.map (z_val A))) := by
  obtain ⟨hx, hb, hml, hown, hts, hN, hini⟩ := X
  obtain ⟨hdg, -⟩ := hE
  replace h := z_i_v h
  obtain ⟨b, r, rfl, h⟩ := h
  replace h := z_i_v h
  obtain ⟨a, r, rfl, h⟩ := h
  cases h
  exact lv_ishl hx hb hdg (kk.stay hl hw hk)
theorem z_s_ishr (L : z_laws gt st nw cp) (hC : ∀ ci kd, z_at zCT ci = some kd → z_clsP ci kd) (hCast : ∀ ci, z_cast ci = true → ∃ C T N, zCl[ci]? = some (C, T, N) ∧ C ∈ zCN) (X : z_fix p s mi args meth c own ini cc nL) (hK : va_K D zCl (z_ty cA) s) (hA : ∀ q, H0.size ≤ q → F q) (hR : 1 ≤ R.frames ∧ 32 ≤ R.locals ∧ mc ≤ R.cells ∧ ms ≤ R.slots)
    (hscr : ∀ L xs, scr = some (L, xs) → va_X (A 1000000) L xs s H0 ∧ A 1000000 < H0.size ∧ ¬ F (A 1000000)) (hk : kc ≤ mc ∧ ks ≤ ms) (hl : z_Loc A loc ls nL) (hw : z_wd D cA F H0 A sh (gt m) H locs)
    (hE : z_okE own oc ini cc (pc, .ishr, x, y)) (h : z_step gt st nw cp mc ms scr (pc, .ishr, x, y) loc stk sh m kc ks = some t) (kk : z_K gt p l e R s mi args below meth c Q nL D cA F H0 mc ms A sh t) : W p l e R s mi args below meth c H locs kc ks Q (F0 mi pc ls (stk.map (z_val A))) := by
  obtain ⟨hx, hb, hml, hown, hts, hN, hini⟩ := X
  obtain ⟨hdg, -⟩ := hE
  replace h := z_i_v h
  obtain ⟨b, r, rfl, h⟩ := h
  replace h := z_i_v h
  obtain ⟨a, r, rfl, h⟩ := h
  cases h
  exact lv_ishr hx hb hdg (kk.stay hl hw hk)
theorem z_s_idiv (L : z_laws gt st nw cp) (hC : ∀ ci kd, z_at zCT ci = some kd → z_clsP ci kd) (hCast : ∀ ci, z_cast ci = true → ∃ C T N, zCl[ci]? = some (C, T, N) ∧ C ∈ zCN) (X : z_fix p s mi args meth c own ini cc nL) (hK : va_K D zCl (z_ty cA) s) (hA : ∀ q, H0.size ≤ q → F q) (hR : 1 ≤ R.frames ∧ 32 ≤ R.locals ∧ mc ≤ R.cells ∧ ms ≤ R.slots)
    (hscr : ∀ L xs, scr = some (L, xs) → va_X (A 1000000) L xs s H0 ∧ A 1000000 < H0.size ∧ ¬ F (A 1000000)) (hk : kc ≤ mc ∧ ks ≤ ms) (hl : z_Loc A loc ls nL) (hw : z_wd D cA F H0 A sh (gt m) H locs)
    (hE : z_okE own oc ini cc (pc, .idiv, x, y)) (h : z_step gt st nw cp mc ms scr (pc, .idiv, x, y) loc stk sh m kc ks = some t) (kk : z_K gt p l e R s mi args below meth c Q nL D cA F H0 mc ms A sh t) : W p l e R s mi args below meth c H locs kc ks Q (F0 mi pc ls (stk.map (z_val A))) := by
  obtain ⟨hx, hb, hml, hown, hts, hN, hini⟩ := X
  obtain ⟨hdg, -⟩ := hE
  replace h := z_i_v h
  obtain ⟨b, r, rfl, h⟩ := h
  replace h := z_i_v h
  obtain ⟨a, r, rfl, h⟩ := h
  by_cases hz : b = 0
  · rw [if_pos hz] at h
    cases h
  · rw [if_neg hz] at h
    cases h
    exact lv_idiv hx hb hdg hz (kk.stay hl hw hk)
theorem z_s_irem (L : z_laws gt st nw cp) (hC : ∀ ci kd, z_at zCT ci = some kd → z_clsP ci kd) (hCast : ∀ ci, z_cast ci = true → ∃ C T N, zCl[ci]? = some (C, T, N) ∧ C ∈ zCN) (X : z_fix p s mi args meth c own ini cc nL) (hK : va_K D zCl (z_ty cA) s) (hA : ∀ q, H0.size ≤ q → F q) (hR : 1 ≤ R.frames ∧ 32 ≤ R.locals ∧ mc ≤ R.cells ∧ ms ≤ R.slots)
    (hscr : ∀ L xs, scr = some (L, xs) → va_X (A 1000000) L xs s H0 ∧ A 1000000 < H0.size ∧ ¬ F (A 1000000)) (hk : kc ≤ mc ∧ ks ≤ ms) (hl : z_Loc A loc ls nL) (hw : z_wd D cA F H0 A sh (gt m) H locs)
    (hE : z_okE own oc ini cc (pc, .irem, x, y)) (h : z_step gt st nw cp mc ms scr (pc, .irem, x, y) loc stk sh m kc ks = some t) (kk : z_K gt p l e R s mi args below meth c Q nL D cA F H0 mc ms A sh t) : W p l e R s mi args below meth c H locs kc ks Q (F0 mi pc ls (stk.map (z_val A))) := by
  obtain ⟨hx, hb, hml, hown, hts, hN, hini⟩ := X
  obtain ⟨hdg, -⟩ := hE
  replace h := z_i_v h
  obtain ⟨b, r, rfl, h⟩ := h
  replace h := z_i_v h
  obtain ⟨a, r, rfl, h⟩ := h
  by_cases hz : b = 0
  · rw [if_pos hz] at h
    cases h
  · rw [if_neg hz] at h
    cases h
    exact lv_irem hx hb hdg hz (kk.stay hl hw hk)
theorem z_s_land (L : z_laws gt st nw cp) (hC : ∀ ci kd, z_at zCT ci = some kd → z_clsP ci kd) (hCast : ∀ ci, z_cast ci = true → ∃ C T N, zCl[ci]? = some (C, T, N) ∧ C ∈ zCN) (X : z_fix p s mi args meth c own ini cc nL) (hK : va_K D zCl (z_ty cA) s) (hA : ∀ q, H0.size ≤ q → F q) (hR : 1 ≤ R.frames ∧ 32 ≤ R.locals ∧ mc ≤ R.cells ∧ ms ≤ R.slots)
    (hscr : ∀ L xs, scr = some (L, xs) → va_X (A 1000000) L xs s H0 ∧ A 1000000 < H0.size ∧ ¬ F (A 1000000)) (hk : kc ≤ mc ∧ ks ≤ ms) (hl : z_Loc A loc ls nL) (hw : z_wd D cA F H0 A sh (gt m) H locs)
    (hE : z_okE own oc ini cc (pc, .land, x, y)) (h : z_step gt st nw cp mc ms scr (pc, .land, x, y) loc stk sh m kc ks = some t) (kk : z_K gt p l e R s mi args below meth c Q nL D cA F H0 mc ms A sh t) : W p l e R s mi args below meth c H locs kc ks Q (F0 mi pc ls (stk.map (z_val A))) := by
  obtain ⟨hx, hb, hml, hown, hts, hN, hini⟩ := X
  obtain ⟨hdg, -⟩ := hE
  replace h := z_l_v h
  obtain ⟨b, r, rfl, h⟩ := h
  replace h := z_l_v h
  obtain ⟨a, r, rfl, h⟩ := h
  cases h
  exact lv_land hx hb hdg (kk.stay hl hw hk)
theorem z_s_lor (L : z_laws gt st nw cp) (hC : ∀ ci kd, z_at zCT ci = some kd → z_clsP ci kd) (hCast : ∀ ci, z_cast ci = true → ∃ C T N, zCl[ci]? = some (C, T, N) ∧ C ∈ zCN) (X : z_fix p s mi args meth c own ini cc nL) (hK : va_K D zCl (z_ty cA) s) (hA : ∀ q, H0.size ≤ q → F q) (hR : 1 ≤ R.frames ∧ 32 ≤ R.locals ∧ mc ≤ R.cells ∧ ms ≤ R.slots)
    (hscr : ∀ L xs, scr = some (L, xs) → va_X (A 1000000) L xs s H0 ∧ A 1000000 < H0.size ∧ ¬ F (A 1000000)) (hk : kc ≤ mc ∧ ks ≤ ms) (hl : z_Loc A loc ls nL) (hw : z_wd D cA F H0 A sh (gt m) H locs)
    (hE : z_okE own oc ini cc (pc, .lor, x, y)) (h : z_step gt st nw cp mc ms scr (pc, .lor, x, y) loc stk sh m kc ks = some t) (kk : z_K gt p l e R s mi args below meth c Q nL D cA F H0 mc ms A sh t) : W p l e R s mi args below meth c H locs kc ks Q (F0 mi pc ls (stk.map (z_val A))) := by
  obtain ⟨hx, hb, hml, hown, hts, hN, hini⟩ := X
  obtain ⟨hdg, -⟩ := hE
  replace h := z_l_v h
  obtain ⟨b, r, rfl, h⟩ := h
  replace h := z_l_v h
  obtain ⟨a, r, rfl, h⟩ := h
  cases h
  exact lv_lor hx hb hdg (kk.stay hl hw hk)
theorem z_s_lshl (L : z_laws gt st nw cp) (hC : ∀ ci kd, z_at zCT ci = some kd → z_clsP ci kd) (hCast : ∀ ci, z_cast ci = true → ∃ C T N, zCl[ci]? = some (C, T, N) ∧ C ∈ zCN) (X : z_fix p s mi args meth c own ini cc nL) (hK : va_K D zCl (z_ty cA) s) (hA : ∀ q, H0.size ≤ q → F q) (hR : 1 ≤ R.frames ∧ 32 ≤ R.locals ∧ mc ≤ R.cells ∧ ms ≤ R.slots)
    (hscr : ∀ L xs, scr = some (L, xs) → va_X (A 1000000) L xs s H0 ∧ A 1000000 < H0.size ∧ ¬ F (A 1000000)) (hk : kc ≤ mc ∧ ks ≤ ms) (hl : z_Loc A loc ls nL) (hw : z_wd D cA F H0 A sh (gt m) H locs)
    (hE : z_okE own oc ini cc (pc, .lshl, x, y)) (h : z_step gt st nw cp mc ms scr (pc, .lshl, x, y) loc stk sh m kc ks = some t) (kk : z_K gt p l e R s mi args below meth c Q nL D cA F H0 mc ms A sh t) : W p l e R s mi args below meth c H locs kc ks Q (F0 mi pc ls (stk.map (z_val A))) := by
  obtain ⟨hx, hb, hml, hown, hts, hN, hini⟩ := X
  obtain ⟨hdg, -⟩ := hE
  replace h := z_i_v h
  obtain ⟨b, r, rfl, h⟩ := h
  replace h := z_l_v h
  obtain ⟨a, r, rfl, h⟩ := h
  cases h
  exact lv_lshl hx hb hdg rfl (kk.stay hl hw hk)
theorem z_s_lshr (L : z_laws gt st nw cp) (hC : ∀ ci kd, z_at zCT ci = some kd → z_clsP ci kd) (hCast : ∀ ci, z_cast ci = true → ∃ C T N, zCl[ci]? = some (C, T, N) ∧ C ∈ zCN) (X : z_fix p s mi args meth c own ini cc nL) (hK : va_K D zCl (z_ty cA) s) (hA : ∀ q, H0.size ≤ q → F q) (hR : 1 ≤ R.frames ∧ 32 ≤ R.locals ∧ mc ≤ R.cells ∧ ms ≤ R.slots)
    (hscr : ∀ L xs, scr = some (L, xs) → va_X (A 1000000) L xs s H0 ∧ A 1000000 < H0.size ∧ ¬ F (A 1000000)) (hk : kc ≤ mc ∧ ks ≤ ms) (hl : z_Loc A loc ls nL) (hw : z_wd D cA F H0 A sh (gt m) H locs)
    (hE : z_okE own oc ini cc (pc, .lshr, x, y)) (h : z_step gt st nw cp mc ms scr (pc, .lshr, x, y) loc stk sh m kc ks = some t) (kk : z_K gt p l e R s mi args below meth c Q nL D cA F H0 mc ms A sh t) : W p l e R s mi args below meth c H locs kc ks Q (F0 mi pc ls (stk.map (z_val A))) := by
  obtain ⟨hx, hb, hml, hown, hts, hN, hini⟩ := X
  obtain ⟨hdg, -⟩ := hE
  replace h := z_i_v h
  obtain ⟨b, r, rfl, h⟩ := h
  replace h := z_l_v h
  obtain ⟨a, r, rfl, h⟩ := h
  cases h
  exact lv_lshr hx hb hdg rfl (kk.stay hl hw hk)
theorem z_s_lushr (L : z_laws gt st nw cp) (hC : ∀ ci kd, z_at zCT ci = some kd → z_clsP ci kd) (hCast : ∀ ci, z_cast ci = true → ∃ C T N, zCl[ci]? = some (C, T, N) ∧ C ∈ zCN) (X : z_fix p s mi args meth c own ini cc nL) (hK : va_K D zCl (z_ty cA) s) (hA : ∀ q, H0.size ≤ q → F q) (hR : 1 ≤ R.frames ∧ 32 ≤ R.locals ∧ mc ≤ R.cells ∧ ms ≤ R.slots)
    (hscr : ∀ L xs, scr = some (L, xs) → va_X (A 1000000) L xs s H0 ∧ A 1000000 < H0.size ∧ ¬ F (A 1000000)) (hk : kc ≤ mc ∧ ks ≤ ms) (hl : z_Loc A loc ls nL) (hw : z_wd D cA F H0 A sh (gt m) H locs)
    (hE : z_okE own oc ini cc (pc, .lushr, x, y)) (h : z_step gt st nw cp mc ms scr (pc, .lushr, x, y) loc stk sh m kc ks = some t) (kk : z_K gt p l e R s mi args below meth c Q nL D cA F H0 mc ms A sh t) : W p l e R s mi args below meth c H locs kc ks Q (F0 mi pc ls (stk.map (z_val A))) := by
  obtain ⟨hx, hb, hml, hown, hts, hN, hini⟩ := X
  obtain ⟨hdg, -⟩ := hE
  replace h := z_i_v h
  obtain ⟨b, r, rfl, h⟩ := h
  replace h := z_l_v h
  obtain ⟨a, r, rfl, h⟩ := h
  cases h
  exact lv_lushr hx hb hdg rfl (kk.stay hl hw hk)
theorem z_s_i2l (L : z_laws gt st nw cp) (hC : ∀ ci kd, z_at zCT ci = some kd → z_clsP ci kd) (hCast : ∀ ci, z_cast ci = true → ∃ C T N, zCl[ci]? = some (C, T, N) ∧ C ∈ zCN) (X : z_fix p s mi args meth c own ini cc nL) (hK : va_K D zCl (z_ty cA) s) (hA : ∀ q, H0.size ≤ q → F q) (hR : 1 ≤ R.frames ∧ 32 ≤ R.locals ∧ mc ≤ R.cells ∧ ms ≤ R.slots)
    (hscr : ∀ L xs, scr = some (L, xs) → va_X (A 1000000) L xs s H0 ∧ A 1000000 < H0.size ∧ ¬ F (A 1000000)) (hk : kc ≤ mc ∧ ks ≤ ms) (hl : z_Loc A loc ls nL) (hw : z_wd D cA F H0 A sh (gt m) H locs)
    (hE : z_okE own oc ini cc (pc, .i2l, x, y)) (h : z_step gt st nw cp mc ms scr (pc, .i2l, x, y) loc stk sh m kc ks = some t) (kk : z_K gt p l e R s mi args below meth c Q nL D cA F H0 mc ms A sh t) : W p l e R s mi args below meth c H locs kc ks Q (F0 mi pc ls (stk.map (z_val A))) := by
  obtain ⟨hx, hb, hml, hown, hts, hN, hini⟩ := X
  obtain ⟨hdg, -⟩ := hE
  replace h := z_i_v h
  obtain ⟨a, r, rfl, h⟩ := h
  cases h
  exact lv_i2l hx hb hdg rfl (kk.stay hl hw hk)
theorem z_s_l2i (L : z_laws gt st nw cp) (hC : ∀ ci kd, z_at zCT ci = some kd → z_clsP ci kd) (hCast : ∀ ci, z_cast ci = true → ∃ C T N, zCl[ci]? = some (C, T, N) ∧ C ∈ zCN) (X : z_fix p s mi args meth c own ini cc nL) (hK : va_K D zCl (z_ty cA) s) (hA : ∀ q, H0.size ≤ q → F q) (hR : 1 ≤ R.frames ∧ 32 ≤ R.locals ∧ mc ≤ R.cells ∧ ms ≤ R.slots)
    (hscr : ∀ L xs, scr = some (L, xs) → va_X (A 1000000) L xs s H0 ∧ A 1000000 < H0.size ∧ ¬ F (A 1000000)) (hk : kc ≤ mc ∧ ks ≤ ms) (hl : z_Loc A loc ls nL) (hw : z_wd D cA F H0 A sh (gt m) H locs)
    (hE : z_okE own oc ini cc (pc, .l2i, x, y)) (h : z_step gt st nw cp mc ms scr (pc, .l2i, x, y) loc stk sh m kc ks = some t) (kk : z_K gt p l e R s mi args below meth c Q nL D cA F H0 mc ms A sh t) : W p l e R s mi args below meth c H locs kc ks Q (F0 mi pc ls (stk.map (z_val A))) := by
  obtain ⟨hx, hb, hml, hown, hts, hN, hini⟩ := X
  obtain ⟨hdg, -⟩ := hE
  replace h := z_l_v h
  obtain ⟨a, r, rfl, h⟩ := h
  cases h
  exact lv_l2i hx hb hdg rfl (kk.stay hl hw hk)
theorem z_s_pop (L : z_laws gt st nw cp) (hC : ∀ ci kd, z_at zCT ci = some kd → z_clsP ci kd) (hCast : ∀ ci, z_cast ci = true → ∃ C T N, zCl[ci]? = some (C, T, N) ∧ C ∈ zCN) (X : z_fix p s mi args meth c own ini cc nL) (hK : va_K D zCl (z_ty cA) s) (hA : ∀ q, H0.size ≤ q → F q) (hR : 1 ≤ R.frames ∧ 32 ≤ R.locals ∧ mc ≤ R.cells ∧ ms ≤ R.slots)
    (hscr : ∀ L xs, scr = some (L, xs) → va_X (A 1000000) L xs s H0 ∧ A 1000000 < H0.size ∧ ¬ F (A 1000000)) (hk : kc ≤ mc ∧ ks ≤ ms) (hl : z_Loc A loc ls nL) (hw : z_wd D cA F H0 A sh (gt m) H locs)
    (hE : z_okE own oc ini cc (pc, .pop, x, y)) (h : z_step gt st nw cp mc ms scr (pc, .pop, x, y) loc stk sh m kc ks = some t) (kk : z_K gt p l e R s mi args below meth c Q nL D cA F H0 mc ms A sh t) : W p l e R s mi args below meth c H locs kc ks Q (F0 mi pc ls (stk.map (z_val A))) := by
  obtain ⟨hx, hb, hml, hown, hts, hN, hini⟩ := X
  obtain ⟨hdg, -⟩ := hE
  unfold z_step at h
  dsimp only at h
  replace h := z_v_v h
  obtain ⟨a, r, rfl, hc, h⟩ := h
  cases h
  exact lv_pop hx hb hdg (by rw [z_val_cat]; exact hc) (kk.stay hl hw hk)
theorem z_s_dup (L : z_laws gt st nw cp) (hC : ∀ ci kd, z_at zCT ci = some kd → z_clsP ci kd) (hCast : ∀ ci, z_cast ci = true → ∃ C T N, zCl[ci]? = some (C, T, N) ∧ C ∈ zCN) (X : z_fix p s mi args meth c own ini cc nL) (hK : va_K D zCl (z_ty cA) s) (hA : ∀ q, H0.size ≤ q → F q) (hR : 1 ≤ R.frames ∧ 32 ≤ R.locals ∧ mc ≤ R.cells ∧ ms ≤ R.slots)
    (hscr : ∀ L xs, scr = some (L, xs) → va_X (A 1000000) L xs s H0 ∧ A 1000000 < H0.size ∧ ¬ F (A 1000000)) (hk : kc ≤ mc ∧ ks ≤ ms) (hl : z_Loc A loc ls nL) (hw : z_wd D cA F H0 A sh (gt m) H locs)
    (hE : z_okE own oc ini cc (pc, .dup, x, y)) (h : z_step gt st nw cp mc ms scr (pc, .dup, x, y) loc stk sh m kc ks = some t) (kk : z_K gt p l e R s mi args below meth c Q nL D cA F H0 mc ms A sh t) : W p l e R s mi args below meth c H locs kc ks Q (F0 mi pc ls (stk.map (z_val A))) := by
  obtain ⟨hx, hb, hml, hown, hts, hN, hini⟩ := X
  obtain ⟨hdg, -⟩ := hE
  unfold z_step at h
  dsimp only at h
  replace h := z_v_v h
  obtain ⟨a, r, rfl, hc, h⟩ := h
  cases h
  exact lv_dup hx hb hdg (by rw [z_val_cat]; exact hc) (kk.stay hl hw hk)
theorem z_s_dup2 (L : z_laws gt st nw cp) (hC : ∀ ci kd, z_at zCT ci = some kd → z_clsP ci kd) (hCast : ∀ ci, z_cast ci = true → ∃ C T N, zCl[ci]? = some (C, T, N) ∧ C ∈ zCN) (X : z_fix p s mi args meth c own ini cc nL) (hK : va_K D zCl (z_ty cA) s) (hA : ∀ q, H0.size ≤ q → F q) (hR : 1 ≤ R.frames ∧ 32 ≤ R.locals ∧ mc ≤ R.cells ∧ ms ≤ R.slots)
    (hscr : ∀ L xs, scr = some (L, xs) → va_X (A 1000000) L xs s H0 ∧ A 1000000 < H0.size ∧ ¬ F (A 1000000)) (hk : kc ≤ mc ∧ ks ≤ ms) (hl : z_Loc A loc ls nL) (hw : z_wd D cA F H0 A sh (gt m) H locs)
    (hE : z_okE own oc ini cc (pc, .dup2, x, y)) (h : z_step gt st nw cp mc ms scr (pc, .dup2, x, y) loc stk sh m kc ks = some t) (kk : z_K gt p l e R s mi args below meth c Q nL D cA F H0 mc ms A sh t) : W p l e R s mi args below meth c H locs kc ks Q (F0 mi pc ls (stk.map (z_val A))) := by
  obtain ⟨hx, hb, hml, hown, hts, hN, hini⟩ := X
  obtain ⟨hdg, -⟩ := hE
  unfold z_step at h
  dsimp only at h
  replace h := z_v_v h
  obtain ⟨a, r, rfl, hc, h⟩ := h
  replace h := z_v_v h
  obtain ⟨b, r, rfl, hd, h⟩ := h
  cases h
  exact lv_dup2_11 hx hb hdg (by rw [z_val_cat]; exact hc) (by rw [z_val_cat]; exact hd) (kk.stay hl hw hk)
theorem z_s_goto {o : Int} (L : z_laws gt st nw cp) (hC : ∀ ci kd, z_at zCT ci = some kd → z_clsP ci kd) (hCast : ∀ ci, z_cast ci = true → ∃ C T N, zCl[ci]? = some (C, T, N) ∧ C ∈ zCN) (X : z_fix p s mi args meth c own ini cc nL) (hK : va_K D zCl (z_ty cA) s) (hA : ∀ q, H0.size ≤ q → F q) (hR : 1 ≤ R.frames ∧ 32 ≤ R.locals ∧ mc ≤ R.cells ∧ ms ≤ R.slots)
    (hscr : ∀ L xs, scr = some (L, xs) → va_X (A 1000000) L xs s H0 ∧ A 1000000 < H0.size ∧ ¬ F (A 1000000)) (hk : kc ≤ mc ∧ ks ≤ ms) (hl : z_Loc A loc ls nL) (hw : z_wd D cA F H0 A sh (gt m) H locs)
    (hE : z_okE own oc ini cc (pc, .goto o, x, y)) (h : z_step gt st nw cp mc ms scr (pc, .goto o, x, y) loc stk sh m kc ks = some t) (kk : z_K gt p l e R s mi args below meth c Q nL D cA F H0 mc ms A sh t) : W p l e R s mi args below meth c H locs kc ks Q (F0 mi pc ls (stk.map (z_val A))) := by
  obtain ⟨hx, hb, hml, hown, hts, hN, hini⟩ := X
  obtain ⟨hdg, ho⟩ := hE
  cases h
  exact lv_goto hx hb hdg ho (kk.stay hl hw hk)
theorem z_s_icmp_eq {o : Int} (L : z_laws gt st nw cp) (hC : ∀ ci kd, z_at zCT ci = some kd → z_clsP ci kd) (hCast : ∀ ci, z_cast ci = true → ∃ C T N, zCl[ci]? = some (C, T, N) ∧ C ∈ zCN) (X : z_fix p s mi args meth c own ini cc nL) (hK : va_K D zCl (z_ty cA) s) (hA : ∀ q, H0.size ≤ q → F q) (hR : 1 ≤ R.frames ∧ 32 ≤ R.locals ∧ mc ≤ R.cells ∧ ms ≤ R.slots)
    (hscr : ∀ L xs, scr = some (L, xs) → va_X (A 1000000) L xs s H0 ∧ A 1000000 < H0.size ∧ ¬ F (A 1000000)) (hk : kc ≤ mc ∧ ks ≤ ms) (hl : z_Loc A loc ls nL) (hw : z_wd D cA F H0 A sh (gt m) H locs)
    (hE : z_okE own oc ini cc (pc, .if_icmp .eq o, x, y)) (h : z_step gt st nw cp mc ms scr (pc, .if_icmp .eq o, x, y) loc stk sh m kc ks = some t) (kk : z_K gt p l e R s mi args below meth c Q nL D cA F H0 mc ms A sh t) : W p l e R s mi args below meth c H locs kc ks Q (F0 mi pc ls (stk.map (z_val A))) := by
  obtain ⟨hx, hb, hml, hown, hts, hN, hini⟩ := X
  obtain ⟨hdg, ho⟩ := hE
  replace h := z_i_v h
  obtain ⟨b, r, rfl, h⟩ := h
  replace h := z_i_v h
  obtain ⟨a, r, rfl, h⟩ := h
  cases h
  refine lv_icmp_eq hx hb hdg ho (fun q => ?_) (fun q => ?_)
  · rw [if_pos (by simpa [z_cmp] using q)] at kk
    exact kk.stay hl hw hk
  · rw [if_neg (by simpa [z_cmp] using q)] at kk
    exact kk.stay hl hw hk
theorem z_s_if_eq {o : Int} (L : z_laws gt st nw cp) (hC : ∀ ci kd, z_at zCT ci = some kd → z_clsP ci kd) (hCast : ∀ ci, z_cast ci = true → ∃ C T N, zCl[ci]? = some (C, T, N) ∧ C ∈ zCN) (X : z_fix p s mi args meth c own ini cc nL) (hK : va_K D zCl (z_ty cA) s) (hA : ∀ q, H0.size ≤ q → F q) (hR : 1 ≤ R.frames ∧ 32 ≤ R.locals ∧ mc ≤ R.cells ∧ ms ≤ R.slots)
    (hscr : ∀ L xs, scr = some (L, xs) → va_X (A 1000000) L xs s H0 ∧ A 1000000 < H0.size ∧ ¬ F (A 1000000)) (hk : kc ≤ mc ∧ ks ≤ ms) (hl : z_Loc A loc ls nL) (hw : z_wd D cA F H0 A sh (gt m) H locs)
    (hE : z_okE own oc ini cc (pc, .ifCond .eq o, x, y)) (h : z_step gt st nw cp mc ms scr (pc, .ifCond .eq o, x, y) loc stk sh m kc ks = some t) (kk : z_K gt p l e R s mi args below meth c Q nL D cA F H0 mc ms A sh t) : W p l e R s mi args below meth c H locs kc ks Q (F0 mi pc ls (stk.map (z_val A))) := by
  obtain ⟨hx, hb, hml, hown, hts, hN, hini⟩ := X
  obtain ⟨hdg, ho⟩ := hE
  replace h := z_i_v h
  obtain ⟨a, r, rfl, h⟩ := h
  cases h
  refine lv_if_eq hx hb hdg ho (fun q => ?_) (fun q => ?_)
  · rw [if_pos (by simpa [z_cmp] using q)] at kk
    exact kk.stay hl hw hk
  · rw [if_neg (by simpa [z_cmp] using q)] at kk
    exact kk.stay hl hw hk
theorem z_s_icmp_ne {o : Int} (L : z_laws gt st nw cp) (hC : ∀ ci kd, z_at zCT ci = some kd → z_clsP ci kd) (hCast : ∀ ci, z_cast ci = true → ∃ C T N, zCl[ci]? = some (C, T, N) ∧ C ∈ zCN) (X : z_fix p s mi args meth c own ini cc nL) (hK : va_K D zCl (z_ty cA) s) (hA : ∀ q, H0.size ≤ q → F q) (hR : 1 ≤ R.frames ∧ 32 ≤ R.locals ∧ mc ≤ R.cells ∧ ms ≤ R.slots)
    (hscr : ∀ L xs, scr = some (L, xs) → va_X (A 1000000) L xs s H0 ∧ A 1000000 < H0.size ∧ ¬ F (A 1000000)) (hk : kc ≤ mc ∧ ks ≤ ms) (hl : z_Loc A loc ls nL) (hw : z_wd D cA F H0 A sh (gt m) H locs)
    (hE : z_okE own oc ini cc (pc, .if_icmp .ne o, x, y)) (h : z_step gt st nw cp mc ms scr (pc, .if_icmp .ne o, x, y) loc stk sh m kc ks = some t) (kk : z_K gt p l e R s mi args below meth c Q nL D cA F H0 mc ms A sh t) : W p l e R s mi args below meth c H locs kc ks Q (F0 mi pc ls (stk.map (z_val A))) := by
  obtain ⟨hx, hb, hml, hown, hts, hN, hini⟩ := X
  obtain ⟨hdg, ho⟩ := hE
  replace h := z_i_v h
  obtain ⟨b, r, rfl, h⟩ := h
  replace h := z_i_v h
  obtain ⟨a, r, rfl, h⟩ := h
  cases h
  refine lv_icmp_ne hx hb hdg ho (fun q => ?_) (fun q => ?_)
  · rw [if_pos (by simpa [z_cmp] using q)] at kk
    exact kk.stay hl hw hk
  · rw [if_neg (by simpa [z_cmp] using q)] at kk
    exact kk.stay hl hw hk
theorem z_s_if_ne {o : Int} (L : z_laws gt st nw cp) (hC : ∀ ci kd, z_at zCT ci = some kd → z_clsP ci kd) (hCast : ∀ ci, z_cast ci = true → ∃ C T N, zCl[ci]? = some (C, T, N) ∧ C ∈ zCN) (X : z_fix p s mi args meth c own ini cc nL) (hK : va_K D zCl (z_ty cA) s) (hA : ∀ q, H0.size ≤ q → F q) (hR : 1 ≤ R.frames ∧ 32 ≤ R.locals ∧ mc ≤ R.cells ∧ ms ≤ R.slots)
    (hscr : ∀ L xs, scr = some (L, xs) → va_X (A 1000000) L xs s H0 ∧ A 1000000 < H0.size ∧ ¬ F (A 1000000)) (hk : kc ≤ mc ∧ ks ≤ ms) (hl : z_Loc A loc ls nL) (hw : z_wd D cA F H0 A sh (gt m) H locs)
    (hE : z_okE own oc ini cc (pc, .ifCond .ne o, x, y)) (h : z_step gt st nw cp mc ms scr (pc, .ifCond .ne o, x, y) loc stk sh m kc ks = some t) (kk : z_K gt p l e R s mi args below meth c Q nL D cA F H0 mc ms A sh t) : W p l e R s mi args below meth c H locs kc ks Q (F0 mi pc ls (stk.map (z_val A))) := by
  obtain ⟨hx, hb, hml, hown, hts, hN, hini⟩ := X
  obtain ⟨hdg, ho⟩ := hE
  replace h := z_i_v h
  obtain ⟨a, r, rfl, h⟩ := h
  cases h
  refine lv_if_ne hx hb hdg ho (fun q => ?_) (fun q => ?_)
  · rw [if_pos (by simpa [z_cmp] using q)] at kk
    exact kk.stay hl hw hk
  · rw [if_neg (by simpa [z_cmp] using q)] at kk
    exact kk.stay hl hw hk
theorem z_s_icmp_lt {o : Int} (L : z_laws gt st nw cp) (hC : ∀ ci kd, z_at zCT ci = some kd → z_clsP ci kd) (hCast : ∀ ci, z_cast ci = true → ∃ C T N, zCl[ci]? = some (C, T, N) ∧ C ∈ zCN) (X : z_fix p s mi args meth c own ini cc nL) (hK : va_K D zCl (z_ty cA) s) (hA : ∀ q, H0.size ≤ q → F q) (hR : 1 ≤ R.frames ∧ 32 ≤ R.locals ∧ mc ≤ R.cells ∧ ms ≤ R.slots)
    (hscr : ∀ L xs, scr = some (L, xs) → va_X (A 1000000) L xs s H0 ∧ A 1000000 < H0.size ∧ ¬ F (A 1000000)) (hk : kc ≤ mc ∧ ks ≤ ms) (hl : z_Loc A loc ls nL) (hw : z_wd D cA F H0 A sh (gt m) H locs)
    (hE : z_okE own oc ini cc (pc, .if_icmp .lt o, x, y)) (h : z_step gt st nw cp mc ms scr (pc, .if_icmp .lt o, x, y) loc stk sh m kc ks = some t) (kk : z_K gt p l e R s mi args below meth c Q nL D cA F H0 mc ms A sh t) : W p l e R s mi args below meth c H locs kc ks Q (F0 mi pc ls (stk.map (z_val A))) := by
  obtain ⟨hx, hb, hml, hown, hts, hN, hini⟩ := X
  obtain ⟨hdg, ho⟩ := hE
  replace h := z_i_v h
  obtain ⟨b, r, rfl, h⟩ := h
  replace h := z_i_v h
  obtain ⟨a, r, rfl, h⟩ := h
  cases h
  refine lv_icmp_lt hx hb hdg ho (fun q => ?_) (fun q => ?_)
  · rw [if_pos (by simpa [z_cmp] using q)] at kk
    exact kk.stay hl hw hk
  · rw [if_neg (by simpa [z_cmp] using q)] at kk
    exact kk.stay hl hw hk
theorem z_s_if_lt {o : Int} (L : z_laws gt st nw cp) (hC : ∀ ci kd, z_at zCT ci = some kd → z_clsP ci kd) (hCast : ∀ ci, z_cast ci = true → ∃ C T N, zCl[ci]? = some (C, T, N) ∧ C ∈ zCN) (X : z_fix p s mi args meth c own ini cc nL) (hK : va_K D zCl (z_ty cA) s) (hA : ∀ q, H0.size ≤ q → F q) (hR : 1 ≤ R.frames ∧ 32 ≤ R.locals ∧ mc ≤ R.cells ∧ ms ≤ R.slots)
    (hscr : ∀ L xs, scr = some (L, xs) → va_X (A 1000000) L xs s H0 ∧ A 1000000 < H0.size ∧ ¬ F (A 1000000)) (hk : kc ≤ mc ∧ ks ≤ ms) (hl : z_Loc A loc ls nL) (hw : z_wd D cA F H0 A sh (gt m) H locs)
    (hE : z_okE own oc ini cc (pc, .ifCond .lt o, x, y)) (h : z_step gt st nw cp mc ms scr (pc, .ifCond .lt o, x, y) loc stk sh m kc ks = some t) (kk : z_K gt p l e R s mi args below meth c Q nL D cA F H0 mc ms A sh t) : W p l e R s mi args below meth c H locs kc ks Q (F0 mi pc ls (stk.map (z_val A))) := by
  obtain ⟨hx, hb, hml, hown, hts, hN, hini⟩ := X
  obtain ⟨hdg, ho⟩ := hE
  replace h := z_i_v h
  obtain ⟨a, r, rfl, h⟩ := h
  cases h
  refine lv_if_lt hx hb hdg ho (fun q => ?_) (fun q => ?_)
  · rw [if_pos (by simpa [z_cmp] using q)] at kk
    exact kk.stay hl hw hk
  · rw [if_neg (by simpa [z_cmp] using q)] at kk
    exact kk.stay hl hw hk
theorem z_s_icmp_ge {o : Int} (L : z_laws gt st nw cp) (hC : ∀ ci kd, z_at zCT ci = some kd → z_clsP ci kd) (hCast : ∀ ci, z_cast ci = true → ∃ C T N, zCl[ci]? = some (C, T, N) ∧ C ∈ zCN) (X : z_fix p s mi args meth c own ini cc nL) (hK : va_K D zCl (z_ty cA) s) (hA : ∀ q, H0.size ≤ q → F q) (hR : 1 ≤ R.frames ∧ 32 ≤ R.locals ∧ mc ≤ R.cells ∧ ms ≤ R.slots)
    (hscr : ∀ L xs, scr = some (L, xs) → va_X (A 1000000) L xs s H0 ∧ A 1000000 < H0.size ∧ ¬ F (A 1000000)) (hk : kc ≤ mc ∧ ks ≤ ms) (hl : z_Loc A loc ls nL) (hw : z_wd D cA F H0 A sh (gt m) H locs)
    (hE : z_okE own oc ini cc (pc, .if_icmp .ge o, x, y)) (h : z_step gt st nw cp mc ms scr (pc, .if_icmp .ge o, x, y) loc stk sh m kc ks = some t) (kk : z_K gt p l e R s mi args below meth c Q nL D cA F H0 mc ms A sh t) : W p l e R s mi args below meth c H locs kc ks Q (F0 mi pc ls (stk.map (z_val A))) := by
  obtain ⟨hx, hb, hml, hown, hts, hN, hini⟩ := X
  obtain ⟨hdg, ho⟩ := hE
  replace h := z_i_v h
  obtain ⟨b, r, rfl, h⟩ := h
  replace h := z_i_v h
  obtain ⟨a, r, rfl, h⟩ := h
  cases h
  refine lv_icmp_ge hx hb hdg ho (fun q => ?_) (fun q => ?_)
  · rw [if_pos (by simpa [z_cmp] using q)] at kk
    exact kk.stay hl hw hk
  · rw [if_neg (by simpa [z_cmp] using q)] at kk
    exact kk.stay hl hw hk
theorem z_s_if_ge {o : Int} (L : z_laws gt st nw cp) (hC : ∀ ci kd, z_at zCT ci = some kd → z_clsP ci kd) (hCast : ∀ ci, z_cast ci = true → ∃ C T N, zCl[ci]? = some (C, T, N) ∧ C ∈ zCN) (X : z_fix p s mi args meth c own ini cc nL) (hK : va_K D zCl (z_ty cA) s) (hA : ∀ q, H0.size ≤ q → F q) (hR : 1 ≤ R.frames ∧ 32 ≤ R.locals ∧ mc ≤ R.cells ∧ ms ≤ R.slots)
    (hscr : ∀ L xs, scr = some (L, xs) → va_X (A 1000000) L xs s H0 ∧ A 1000000 < H0.size ∧ ¬ F (A 1000000)) (hk : kc ≤ mc ∧ ks ≤ ms) (hl : z_Loc A loc ls nL) (hw : z_wd D cA F H0 A sh (gt m) H locs)
    (hE : z_okE own oc ini cc (pc, .ifCond .ge o, x, y)) (h : z_step gt st nw cp mc ms scr (pc, .ifCond .ge o, x, y) loc stk sh m kc ks = some t) (kk : z_K gt p l e R s mi args below meth c Q nL D cA F H0 mc ms A sh t) : W p l e R s mi args below meth c H locs kc ks Q (F0 mi pc ls (stk.map (z_val A))) := by
  obtain ⟨hx, hb, hml, hown, hts, hN, hini⟩ := X
  obtain ⟨hdg, ho⟩ := hE
  replace h := z_i_v h
  obtain ⟨a, r, rfl, h⟩ := h
  cases h
  refine lv_if_ge hx hb hdg ho (fun q => ?_) (fun q => ?_)
  · rw [if_pos (by simpa [z_cmp] using q)] at kk
    exact kk.stay hl hw hk
  · rw [if_neg (by simpa [z_cmp] using q)] at kk
    exact kk.stay hl hw hk
theorem z_s_icmp_gt {o : Int} (L : z_laws gt st nw cp) (hC : ∀ ci kd, z_at zCT ci = some kd → z_clsP ci kd) (hCast : ∀ ci, z_cast ci = true → ∃ C T N, zCl[ci]? = some (C, T, N) ∧ C ∈ zCN) (X : z_fix p s mi args meth c own ini cc nL) (hK : va_K D zCl (z_ty cA) s) (hA : ∀ q, H0.size ≤ q → F q) (hR : 1 ≤ R.frames ∧ 32 ≤ R.locals ∧ mc ≤ R.cells ∧ ms ≤ R.slots)
    (hscr : ∀ L xs, scr = some (L, xs) → va_X (A 1000000) L xs s H0 ∧ A 1000000 < H0.size ∧ ¬ F (A 1000000)) (hk : kc ≤ mc ∧ ks ≤ ms) (hl : z_Loc A loc ls nL) (hw : z_wd D cA F H0 A sh (gt m) H locs)
    (hE : z_okE own oc ini cc (pc, .if_icmp .gt o, x, y)) (h : z_step gt st nw cp mc ms scr (pc, .if_icmp .gt o, x, y) loc stk sh m kc ks = some t) (kk : z_K gt p l e R s mi args below meth c Q nL D cA F H0 mc ms A sh t) : W p l e R s mi args below meth c H locs kc ks Q (F0 mi pc ls (stk.map (z_val A))) := by
  obtain ⟨hx, hb, hml, hown, hts, hN, hini⟩ := X
  obtain ⟨hdg, ho⟩ := hE
  replace h := z_i_v h
  obtain ⟨b, r, rfl, h⟩ := h
  replace h := z_i_v h
  obtain ⟨a, r, rfl, h⟩ := h
  cases h
  refine lv_icmp_gt hx hb hdg ho (fun q => ?_) (fun q => ?_)
  · rw [if_pos (by simpa [z_cmp] using q)] at kk
    exact kk.stay hl hw hk
  · rw [if_neg (by simpa [z_cmp] using q)] at kk
    exact kk.stay hl hw hk
theorem z_s_if_gt {o : Int} (L : z_laws gt st nw cp) (hC : ∀ ci kd, z_at zCT ci = some kd → z_clsP ci kd) (hCast : ∀ ci, z_cast ci = true → ∃ C T N, zCl[ci]? = some (C, T, N) ∧ C ∈ zCN) (X : z_fix p s mi args meth c own ini cc nL) (hK : va_K D zCl (z_ty cA) s) (hA : ∀ q, H0.size ≤ q → F q) (hR : 1 ≤ R.frames ∧ 32 ≤ R.locals ∧ mc ≤ R.cells ∧ ms ≤ R.slots)
    (hscr : ∀ L xs, scr = some (L, xs) → va_X (A 1000000) L xs s H0 ∧ A 1000000 < H0.size ∧ ¬ F (A 1000000)) (hk : kc ≤ mc ∧ ks ≤ ms) (hl : z_Loc A loc ls nL) (hw : z_wd D cA F H0 A sh (gt m) H locs)
    (hE : z_okE own oc ini cc (pc, .ifCond .gt o, x, y)) (h : z_step gt st nw cp mc ms scr (pc, .ifCond .gt o, x, y) loc stk sh m kc ks = some t) (kk : z_K gt p l e R s mi args below meth c Q nL D cA F H0 mc ms A sh t) : W p l e R s mi args below meth c H locs kc ks Q (F0 mi pc ls (stk.map (z_val A))) := by
  obtain ⟨hx, hb, hml, hown, hts, hN, hini⟩ := X
  obtain ⟨hdg, ho⟩ := hE
  replace h := z_i_v h
  obtain ⟨a, r, rfl, h⟩ := h
  cases h
  refine lv_if_gt hx hb hdg ho (fun q => ?_) (fun q => ?_)
  · rw [if_pos (by simpa [z_cmp] using q)] at kk
    exact kk.stay hl hw hk
  · rw [if_neg (by simpa [z_cmp] using q)] at kk
    exact kk.stay hl hw hk
theorem z_s_icmp_le {o : Int} (L : z_laws gt st nw cp) (hC : ∀ ci kd, z_at zCT ci = some kd → z_clsP ci kd) (hCast : ∀ ci, z_cast ci = true → ∃ C T N, zCl[ci]? = some (C, T, N) ∧ C ∈ zCN) (X : z_fix p s mi args meth c own ini cc nL) (hK : va_K D zCl (z_ty cA) s) (hA : ∀ q, H0.size ≤ q → F q) (hR : 1 ≤ R.frames ∧ 32 ≤ R.locals ∧ mc ≤ R.cells ∧ ms ≤ R.slots)
    (hscr : ∀ L xs, scr = some (L, xs) → va_X (A 1000000) L xs s H0 ∧ A 1000000 < H0.size ∧ ¬ F (A 1000000)) (hk : kc ≤ mc ∧ ks ≤ ms) (hl : z_Loc A loc ls nL) (hw : z_wd D cA F H0 A sh (gt m) H locs)
    (hE : z_okE own oc ini cc (pc, .if_icmp .le o, x, y)) (h : z_step gt st nw cp mc ms scr (pc, .if_icmp .le o, x, y) loc stk sh m kc ks = some t) (kk : z_K gt p l e R s mi args below meth c Q nL D cA F H0 mc ms A sh t) : W p l e R s mi args below meth c H locs kc ks Q (F0 mi pc ls (stk.map (z_val A))) := by
  obtain ⟨hx, hb, hml, hown, hts, hN, hini⟩ := X
  obtain ⟨hdg, ho⟩ := hE
  replace h := z_i_v h
  obtain ⟨b, r, rfl, h⟩ := h
  replace h := z_i_v h
  obtain ⟨a, r, rfl, h⟩ := h
  cases h
  refine lv_icmp_le hx hb hdg ho (fun q => ?_) (fun q => ?_)
  · rw [if_pos (by simpa [z_cmp] using q)] at kk
    exact kk.stay hl hw hk
  · rw [if_neg (by simpa [z_cmp] using q)] at kk
    exact kk.stay hl hw hk
theorem z_s_if_le {o : Int} (L : z_laws gt st nw cp) (hC : ∀ ci kd, z_at zCT ci = some kd → z_clsP ci kd) (hCast : ∀ ci, z_cast ci = true → ∃ C T N, zCl[ci]? = some (C, T, N) ∧ C ∈ zCN) (X : z_fix p s mi args meth c own ini cc nL) (hK : va_K D zCl (z_ty cA) s) (hA : ∀ q, H0.size ≤ q → F q) (hR : 1 ≤ R.frames ∧ 32 ≤ R.locals ∧ mc ≤ R.cells ∧ ms ≤ R.slots)
    (hscr : ∀ L xs, scr = some (L, xs) → va_X (A 1000000) L xs s H0 ∧ A 1000000 < H0.size ∧ ¬ F (A 1000000)) (hk : kc ≤ mc ∧ ks ≤ ms) (hl : z_Loc A loc ls nL) (hw : z_wd D cA F H0 A sh (gt m) H locs)
    (hE : z_okE own oc ini cc (pc, .ifCond .le o, x, y)) (h : z_step gt st nw cp mc ms scr (pc, .ifCond .le o, x, y) loc stk sh m kc ks = some t) (kk : z_K gt p l e R s mi args below meth c Q nL D cA F H0 mc ms A sh t) : W p l e R s mi args below meth c H locs kc ks Q (F0 mi pc ls (stk.map (z_val A))) := by
  obtain ⟨hx, hb, hml, hown, hts, hN, hini⟩ := X
  obtain ⟨hdg, ho⟩ := hE
  replace h := z_i_v h
  obtain ⟨a, r, rfl, h⟩ := h
  cases h
  refine lv_if_le hx hb hdg ho (fun q => ?_) (fun q => ?_)
  · rw [if_pos (by simpa [z_cmp] using q)] at kk
    exact kk.stay hl hw hk
  · rw [if_neg (by simpa [z_cmp] using q)] at kk
    exact kk.stay hl hw hk
theorem z_s_tsw {d lo hi : Int} {o : Array Int} (L : z_laws gt st nw cp) (hC : ∀ ci kd, z_at zCT ci = some kd → z_clsP ci kd) (hCast : ∀ ci, z_cast ci = true → ∃ C T N, zCl[ci]? = some (C, T, N) ∧ C ∈ zCN) (X : z_fix p s mi args meth c own ini cc nL) (hK : va_K D zCl (z_ty cA) s) (hA : ∀ q, H0.size ≤ q → F q) (hR : 1 ≤ R.frames ∧ 32 ≤ R.locals ∧ mc ≤ R.cells ∧ ms ≤ R.slots)
    (hscr : ∀ L xs, scr = some (L, xs) → va_X (A 1000000) L xs s H0 ∧ A 1000000 < H0.size ∧ ¬ F (A 1000000)) (hk : kc ≤ mc ∧ ks ≤ ms) (hl : z_Loc A loc ls nL) (hw : z_wd D cA F H0 A sh (gt m) H locs)
    (hE : z_okE own oc ini cc (pc, .tableswitch d lo hi o, x, y)) (h : z_step gt st nw cp mc ms scr (pc, .tableswitch d lo hi o, x, y) loc stk sh m kc ks = some t) (kk : z_K gt p l e R s mi args below meth c Q nL D cA F H0 mc ms A sh t) : W p l e R s mi args below meth c H locs kc ks Q (F0 mi pc ls (stk.map (z_val A))) := by
  obtain ⟨hx, hb, hml, hown, hts, hN, hini⟩ := X
  obtain ⟨k, hdg⟩ := hE
  replace h := z_i_v h
  obtain ⟨a, r, rfl, h⟩ := h
  cases hsw : z_sw pc a d lo hi o with
  | none =>
    simp only [hsw] at h
    cases h
  | some tg =>
    simp only [hsw] at h
    cases h
    unfold z_sw at hsw
    by_cases hr : a.toInt < lo ∨ hi < a.toInt
    · rw [if_pos hr] at hsw
      by_cases h0 : 0 ≤ (pc : Int) + d
      · rw [if_pos h0] at hsw
        cases hsw
        exact lv_tableOut hx hb hdg hr (Int.toNat_of_nonneg h0).symm (kk.stay hl hw hk)
      · rw [if_neg h0] at hsw
        cases hsw
    · rw [if_neg hr] at hsw
      cases ho : o[(a.toInt - lo).toNat]? with
      | none =>
        rw [ho] at hsw
        cases hsw
      | some off =>
        rw [ho] at hsw
        dsimp only at hsw
        by_cases h0 : 0 ≤ (pc : Int) + off
        · rw [if_pos h0] at hsw
          cases hsw
          exact lv_tableIn hx hb hdg (fun q => hr (Or.inl q)) (fun q => hr (Or.inr q)) ho (Int.toNat_of_nonneg h0).symm (kk.stay hl hw hk)
        · rw [if_neg h0] at hsw
          cases hsw
end ZS
