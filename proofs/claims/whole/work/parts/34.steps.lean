section ZS
variable {μ : Type} {gt : μ → Nat → Nat → Int32} {st : μ → Nat → Nat → Int32 → μ} {nw : μ → Nat → μ} {cp : μ → Nat → Nat → Nat → Nat → Nat → μ}
  {p : Program} {l : Launch} {e : Env} {R : Room} {s : State} {mi : MethodId} {args : Array Value} {below : List Frame} {meth : Method} {c : Code} {H H0 : Heap} {locs : List Loc} {Q : State → Prop}
  {own : String} {oc : Nat} {ini : Bool} {cc : ByteArray} {nL : Nat} {D : va_G} {cA : Nat → ClassId} {F : Nat → Prop} {A : Nat → Nat} {ls : Array Slot} {mc ms : Nat} {scr : Option (Nat × (Nat → Int32))}
  {loc : List (Option Value)} {stk : List Value} {sh : List zS} {m : μ} {kc ks : Nat} {t : zT μ} {pc x y : Nat}
theorem z_none_at (k j : Nat) : (z_at (z_none k) j).getD none = none := by
  rw [z_at_eq, z_none, List.getElem?_replicate]
  split <;> rfl
theorem z_none_all (k n : Nat) : (z_none k).all (z_loN n) = true := by
  rw [List.all_eq_true]
  intro r hr
  rw [z_none, List.mem_replicate] at hr
  rw [hr.2]
  rfl
theorem z_sum8 {r : List Value} (A : Nat → Nat) (h : (r.map fun v => v.category).sum ≤ 8) : ((r.map (z_val A)).map fun v => v.category).sum ≤ 8 := by
  rw [z_vals_cat]
  exact h
theorem z_s_new {n : Nat} (L : z_laws gt st nw cp) (hC : ∀ ci kd, z_at zCT ci = some kd → z_clsP ci kd) (hCast : ∀ ci, z_cast ci = true → ∃ C T N, zCl[ci]? = some (C, T, N) ∧ C ∈ zCN) (X : z_fix p s mi args meth c own ini cc nL) (hK : va_K D zCl (z_ty cA) s) (hA : ∀ q, H0.size ≤ q → F q) (hR : 1 ≤ R.frames ∧ 32 ≤ R.locals ∧ mc ≤ R.cells ∧ ms ≤ R.slots)
    (hscr : ∀ L xs, scr = some (L, xs) → va_X (A 1000000) L xs s H0 ∧ A 1000000 < H0.size ∧ ¬ F (A 1000000)) (hk : kc ≤ mc ∧ ks ≤ ms) (hl : z_Loc A loc ls nL) (hw : z_wd D cA F H0 A sh (gt m) H locs)
    (hE : z_okE own oc ini cc (pc, .new n, x, y)) (h : z_step gt st nw cp mc ms scr (pc, .new n, x, y) loc stk sh m kc ks = some t) (kk : z_K gt p l e R s mi args below meth c Q nL D cA F H0 mc ms A sh t) : W p l e R s mi args below meth c H locs kc ks Q (F0 mi pc ls (stk.map (z_val A))) := by
  obtain ⟨hx, hb, hml, hown, hts, hN, hini⟩ := X
  obtain ⟨hdg, C', T', N', hc2, hlink⟩ := hE
  change z_new nw mc ms x (pc + 3) loc stk sh m kc ks = some t at h
  unfold z_new at h
  cases hkd : z_at zCT x with
  | none =>
    simp only [hkd] at h
    cases h
  | some kd =>
    simp only [hkd] at h
    obtain ⟨C, T, ty, hc1, hin, hty, hnm, hkind, hinst, hinit⟩ := hC x kd hkd
    dsimp only at hc2
    obtain ⟨rfl, rfl, rfl⟩ : C = C' ∧ T = T' ∧ kd.length = N' := by
      have := Option.some.inj (hc1.symm.trans hc2)
      simp only [Prod.mk.injEq] at this
      exact this
    split at h
    · rename_i hcond
      simp only [Bool.and_eq_true, decide_eq_true_eq] at hcond
      obtain ⟨⟨⟨⟨ha, hs⟩, hn⟩, h1⟩, h2⟩ := hcond
      cases h
      refine va_new (ci := x) (fs := z_fs A kd (z_none kd.length) (fun _ => 0)) hx hb hts hin ty hty hown (hts _ hlink) (hts _ hinst) (hts _ hinit) hK hw.1 hw.2.1 hw.2.2 hA hc1 ?_ (Nat.le_trans h1 hR.2.2.1) (Nat.le_trans h2 hR.2.2.2) hdg (fun q H1 hP hD hS => ?_)
      · intro j hj
        have hgd : z_at kd j = some (kd.getD j 9) := by
          rw [z_at_eq, List.getD_eq_getElem?_getD, List.getElem?_eq_getElem hj]
          rfl
        unfold vp_V
        rw [List.getD_eq_getElem?_getD, z_fs_at hgd, z_none_at]
        rcases hkind j hj with ⟨h0, hti, -⟩ | ⟨h0, hti, -⟩ | ⟨h0, hti, -⟩ | ⟨h0, hti, -⟩
        · rw [h0, hti]; rfl
        · rw [h0, hti]; rfl
        · rw [h0]
          cases hq : ty j <;> rw [hq] at hti <;> first | rfl | simp [refKind] at hti
        · rw [h0]
          cases hq : ty j <;> rw [hq] at hti <;> first | rfl | simp [refKind] at hti
      · have e1 : z_cell (va_up A sh.length q) cA (0, x, z_none kd.length) (fun _ => 0) = .inr (x, z_fs A kd (z_none kd.length) (fun _ => 0)) := by
          rw [z_cell_ag (z_ag_up hn) cA (z_none_all _ _), z_cell0, hkd]
          rfl
        exact kk.grow hl ⟨h1, h2⟩ hn hs ha (L.2.1 m sh.length) (by rw [e1]; exact hP) (by rw [e1]; exact hD) hS
    · cases h
theorem z_s_newi (L : z_laws gt st nw cp) (hC : ∀ ci kd, z_at zCT ci = some kd → z_clsP ci kd) (hCast : ∀ ci, z_cast ci = true → ∃ C T N, zCl[ci]? = some (C, T, N) ∧ C ∈ zCN) (X : z_fix p s mi args meth c own ini cc nL) (hK : va_K D zCl (z_ty cA) s) (hA : ∀ q, H0.size ≤ q → F q) (hR : 1 ≤ R.frames ∧ 32 ≤ R.locals ∧ mc ≤ R.cells ∧ ms ≤ R.slots)
    (hscr : ∀ L xs, scr = some (L, xs) → va_X (A 1000000) L xs s H0 ∧ A 1000000 < H0.size ∧ ¬ F (A 1000000)) (hk : kc ≤ mc ∧ ks ≤ ms) (hl : z_Loc A loc ls nL) (hw : z_wd D cA F H0 A sh (gt m) H locs)
    (hE : z_okE own oc ini cc (pc, .newarray .int, x, y)) (h : z_step gt st nw cp mc ms scr (pc, .newarray .int, x, y) loc stk sh m kc ks = some t) (kk : z_K gt p l e R s mi args below meth c Q nL D cA F H0 mc ms A sh t) : W p l e R s mi args below meth c H locs kc ks Q (F0 mi pc ls (stk.map (z_val A))) := by
  obtain ⟨hx, hb, hml, hown, hts, hN, hini⟩ := X
  obtain ⟨hdg, harr⟩ := hE
  change z_newa nw mc ms 1 (pc + 2) loc stk sh m kc ks = some t at h
  replace h := z_i_v h
  obtain ⟨n, r, rfl, h⟩ := h
  split at h
  · rename_i hcond
    simp only [Bool.and_eq_true, Bool.not_eq_true', decide_eq_true_eq, decide_eq_false_iff_not] at hcond
    obtain ⟨⟨⟨⟨⟨⟨ha, hs⟩, hn⟩, hneg⟩, hbig⟩, h1⟩, h2⟩ := hcond
    cases h
    refine va_newa (ty := .int) (a0 := (n.toNatClampNeg, .inl (fun _ => 0))) hx hb (hts _ harr) rfl hK hw.1 hw.2.1 hw.2.2 hA (fun cA => rfl) hneg rfl ?_ (Nat.le_trans h1 hR.2.2.1) (Nat.le_trans h2 hR.2.2.2) hdg (fun q c2 H1 hK2 hP hD hS => ?_)
    · have : componentBytes .int ≤ 4 := by decide
      calc n.toNatClampNeg * componentBytes .int ≤ 1000000 * 4 := Nat.mul_le_mul hbig this
        _ ≤ 536870912 := by decide
    · obtain rfl := z_RA (k := 0) hK2 rfl
      exact kk.grow hl ⟨h1, h2⟩ hn hs ha (L.2.1 m sh.length) (by rw [z_cell1]; exact hP) (by rw [z_cell1]; exact hD) hS
  · cases h
theorem z_s_newz (L : z_laws gt st nw cp) (hC : ∀ ci kd, z_at zCT ci = some kd → z_clsP ci kd) (hCast : ∀ ci, z_cast ci = true → ∃ C T N, zCl[ci]? = some (C, T, N) ∧ C ∈ zCN) (X : z_fix p s mi args meth c own ini cc nL) (hK : va_K D zCl (z_ty cA) s) (hA : ∀ q, H0.size ≤ q → F q) (hR : 1 ≤ R.frames ∧ 32 ≤ R.locals ∧ mc ≤ R.cells ∧ ms ≤ R.slots)
    (hscr : ∀ L xs, scr = some (L, xs) → va_X (A 1000000) L xs s H0 ∧ A 1000000 < H0.size ∧ ¬ F (A 1000000)) (hk : kc ≤ mc ∧ ks ≤ ms) (hl : z_Loc A loc ls nL) (hw : z_wd D cA F H0 A sh (gt m) H locs)
    (hE : z_okE own oc ini cc (pc, .newarray .boolean, x, y)) (h : z_step gt st nw cp mc ms scr (pc, .newarray .boolean, x, y) loc stk sh m kc ks = some t) (kk : z_K gt p l e R s mi args below meth c Q nL D cA F H0 mc ms A sh t) : W p l e R s mi args below meth c H locs kc ks Q (F0 mi pc ls (stk.map (z_val A))) := by
  obtain ⟨hx, hb, hml, hown, hts, hN, hini⟩ := X
  obtain ⟨hdg, harr⟩ := hE
  change z_newa nw mc ms 2 (pc + 2) loc stk sh m kc ks = some t at h
  replace h := z_i_v h
  obtain ⟨n, r, rfl, h⟩ := h
  split at h
  · rename_i hcond
    simp only [Bool.and_eq_true, Bool.not_eq_true', decide_eq_true_eq, decide_eq_false_iff_not] at hcond
    obtain ⟨⟨⟨⟨⟨⟨ha, hs⟩, hn⟩, hneg⟩, hbig⟩, h1⟩, h2⟩ := hcond
    cases h
    refine va_newa (ty := .boolean) (a0 := (n.toNatClampNeg, .inl (fun _ => 0))) hx hb (hts _ harr) rfl hK hw.1 hw.2.1 hw.2.2 hA (fun cA => rfl) hneg rfl ?_ (Nat.le_trans h1 hR.2.2.1) (Nat.le_trans h2 hR.2.2.2) hdg (fun q c2 H1 hK2 hP hD hS => ?_)
    · have : componentBytes .boolean ≤ 4 := by decide
      calc n.toNatClampNeg * componentBytes .boolean ≤ 1000000 * 4 := Nat.mul_le_mul hbig this
        _ ≤ 536870912 := by decide
    · obtain rfl := z_RA (k := 1) hK2 rfl
      exact kk.grow hl ⟨h1, h2⟩ hn hs ha (L.2.1 m sh.length) (by rw [z_cell2]; exact hP) (by rw [z_cell2]; exact hD) hS
  · cases h
theorem z_s_anew {k : Nat} (L : z_laws gt st nw cp) (hC : ∀ ci kd, z_at zCT ci = some kd → z_clsP ci kd) (hCast : ∀ ci, z_cast ci = true → ∃ C T N, zCl[ci]? = some (C, T, N) ∧ C ∈ zCN) (X : z_fix p s mi args meth c own ini cc nL) (hK : va_K D zCl (z_ty cA) s) (hA : ∀ q, H0.size ≤ q → F q) (hR : 1 ≤ R.frames ∧ 32 ≤ R.locals ∧ mc ≤ R.cells ∧ ms ≤ R.slots)
    (hscr : ∀ L xs, scr = some (L, xs) → va_X (A 1000000) L xs s H0 ∧ A 1000000 < H0.size ∧ ¬ F (A 1000000)) (hk : kc ≤ mc ∧ ks ≤ ms) (hl : z_Loc A loc ls nL) (hw : z_wd D cA F H0 A sh (gt m) H locs)
    (hE : z_okE own oc ini cc (pc, .anewarray k, x, y)) (h : z_step gt st nw cp mc ms scr (pc, .anewarray k, x, y) loc stk sh m kc ks = some t) (kk : z_K gt p l e R s mi args below meth c Q nL D cA F H0 mc ms A sh t) : W p l e R s mi args below meth c H locs kc ks Q (F0 mi pc ls (stk.map (z_val A))) := by
  obtain ⟨hx, hb, hml, hown, hts, hN, hini⟩ := X
  obtain ⟨hdg, hlink⟩ := hE
  change z_newa nw mc ms 3 (pc + 3) loc stk sh m kc ks = some t at h
  replace h := z_i_v h
  obtain ⟨n, r, rfl, h⟩ := h
  split at h
  · rename_i hcond
    simp only [Bool.and_eq_true, Bool.not_eq_true', decide_eq_true_eq, decide_eq_false_iff_not] at hcond
    obtain ⟨⟨⟨⟨⟨⟨ha, hs⟩, hn⟩, hneg⟩, hbig⟩, h1⟩, h2⟩ := hcond
    rw [if_pos rfl] at h
    cases h
    refine va_newq (C := zEl) hx hb hown (hts _ hlink) hN.2.2.2.2 hK hw.1 hw.2.1 hw.2.2 hA hneg rfl ?_ (Nat.le_trans h1 hR.2.2.1) (Nat.le_trans h2 hR.2.2.2) hdg (fun q c2 H1 hK2 hP hD hS => ?_)
    · calc n.toNatClampNeg * 4 ≤ 1000000 * 4 := Nat.mul_le_mul hbig (Nat.le_refl _)
        _ ≤ 536870912 := by decide
    · obtain rfl := z_RA (k := 2) hK2 rfl
      have e1 : z_cell (va_up A sh.length q) cA (3, n.toNatClampNeg, z_none n.toNatClampNeg) (fun _ => 0) = .inl (cA 2, n.toNatClampNeg, .inr (.inr (.inr (.inr (fun _ => none))))) := by
        rw [z_cell3]
        have : (fun j => ((z_at (z_none n.toNatClampNeg) j).getD none).map (va_up A sh.length q)) = (fun _ => none) := funext fun j => by rw [z_none_at]; rfl
        rw [this]
      exact kk.grow hl ⟨h1, h2⟩ hn hs ha (L.2.1 m sh.length) (by rw [e1]; exact hP) (by rw [e1]; exact hD) hS
  · cases h
theorem z_s_oinit {n : Nat} (L : z_laws gt st nw cp) (hC : ∀ ci kd, z_at zCT ci = some kd → z_clsP ci kd) (hCast : ∀ ci, z_cast ci = true → ∃ C T N, zCl[ci]? = some (C, T, N) ∧ C ∈ zCN) (X : z_fix p s mi args meth c own ini cc nL) (hK : va_K D zCl (z_ty cA) s) (hA : ∀ q, H0.size ≤ q → F q) (hR : 1 ≤ R.frames ∧ 32 ≤ R.locals ∧ mc ≤ R.cells ∧ ms ≤ R.slots)
    (hscr : ∀ L xs, scr = some (L, xs) → va_X (A 1000000) L xs s H0 ∧ A 1000000 < H0.size ∧ ¬ F (A 1000000)) (hk : kc ≤ mc ∧ ks ≤ ms) (hl : z_Loc A loc ls nL) (hw : z_wd D cA F H0 A sh (gt m) H locs)
    (hE : z_okE own oc ini cc (pc, .invokespecial n, x, y)) (h : z_step gt st nw cp mc ms scr (pc, .invokespecial n, x, y) loc stk sh m kc ks = some t) (kk : z_K gt p l e R s mi args below meth c Q nL D cA F H0 mc ms A sh t) : W p l e R s mi args below meth c H locs kc ks Q (F0 mi pc ls (stk.map (z_val A))) := by
  obtain ⟨hx, hb, hml, hown, hts, hN, hini⟩ := X
  obtain ⟨hdg, hw9⟩ := hE
  by_cases h9 : x = 9
  · obtain ⟨h1, h2, h3⟩ := hw9 h9
    change (if x = 9 then _ else _) = some t at h
    rw [if_pos h9] at h
    replace h := z_r_v h
    obtain ⟨q, r, rfl, h⟩ := h
    split at h
    · rename_i hr
      cases h
      have h8 := z_sum8 A hr
      refine W.objInit (rest := r.map (z_val A)) hx hb hown (hts _ h1) (hts _ h2) (hts _ h3) rfl (by rw [hml]; exact hl.1) rfl hdg hR.1 ?_ ?_
      · have := lv_room (m := mi) (pc := pc) (ls := ls) (rest := (Value.ref q :: r).map (z_val A)) h8
        have h64 := hR.2.1
        omega
      · exact kk.stay hl hw hk
    · cases h
  · change (if x = 9 then _ else _) = some t at h
    rw [if_neg h9] at h
    cases h
theorem z_s_stat {n : Nat} (L : z_laws gt st nw cp) (hC : ∀ ci kd, z_at zCT ci = some kd → z_clsP ci kd) (hCast : ∀ ci, z_cast ci = true → ∃ C T N, zCl[ci]? = some (C, T, N) ∧ C ∈ zCN) (X : z_fix p s mi args meth c own ini cc nL) (hK : va_K D zCl (z_ty cA) s) (hA : ∀ q, H0.size ≤ q → F q) (hR : 1 ≤ R.frames ∧ 32 ≤ R.locals ∧ mc ≤ R.cells ∧ ms ≤ R.slots)
    (hscr : ∀ L xs, scr = some (L, xs) → va_X (A 1000000) L xs s H0 ∧ A 1000000 < H0.size ∧ ¬ F (A 1000000)) (hk : kc ≤ mc ∧ ks ≤ ms) (hl : z_Loc A loc ls nL) (hw : z_wd D cA F H0 A sh (gt m) H locs)
    (hE : z_okE own oc ini cc (pc, .invokestatic n, x, y)) (h : z_step gt st nw cp mc ms scr (pc, .invokestatic n, x, y) loc stk sh m kc ks = some t) (kk : z_K gt p l e R s mi args below meth c Q nL D cA F H0 mc ms A sh t) : W p l e R s mi args below meth c H locs kc ks Q (F0 mi pc ls (stk.map (z_val A))) := by
  obtain ⟨hx, hb, hml, hown, hts, hN, hini⟩ := X
  obtain ⟨hdg, hw3, hw4, hw5⟩ := hE
  unfold z_step at h
  dsimp only at h
  have h64 := hR.2.1
  split at h
  · obtain ⟨l1, l2, l3, l4⟩ := hw3 (by first | rfl | assumption)
    replace h := z_i_v h
    obtain ⟨k, r, rfl, h⟩ := h
    replace h := z_i_v h
    obtain ⟨dp, r, rfl, h⟩ := h
    replace h := z_r_v h
    obtain ⟨b, r, rfl, h⟩ := h
    replace h := z_i_v h
    obtain ⟨sp, r, rfl, h⟩ := h
    replace h := z_r_v h
    obtain ⟨a, r, rfl, h⟩ := h
    replace h := z_ints_v h
    obtain ⟨n0, rs0, hs0, h⟩ := h
    replace h := z_ints_v h
    obtain ⟨n1, rs1, hs1, h⟩ := h
    split at h
    · rename_i hcond
      obtain ⟨c1, c2, c3, c4, c5, c6⟩ := hcond
      cases h
      have h8 := z_sum8 A c6
      have hn : ∀ z : Int32, 0 ≤ z → ¬ z < 0 := fun z hz hq => by
        rw [Int32.le_iff_toInt_le] at hz
        rw [Int32.lt_iff_toInt_lt] at hq
        omega
      refine va_copyi (ty := .int) hx hb (by rw [hml]; exact hl.1.symm) hown (hts _ l1) (hts _ l2) (hts _ l3) (hts _ l4) hK hw.1 hw.2.1 hw.2.2 a b 0 0 (by rw [z_W_g hs0, z_cell1]) (by rw [z_W_g hs1, z_cell1]) rfl rfl rfl (hn _ c1) (hn _ c2) (hn _ c3) c4 c5 (fun _ _ => rfl) hR.1 ?_ hdg (fun H1 locs1 hP hD hS => ?_)
      · have : nativeFrameWords "java/lang/System" "arraycopy" 5 + 11 ≤ 18 := by decide +kernel
        omega
      · exact kk.mem hl hk hs1 (L.2.2 m a _ b _ _) (by rw [z_cell1]; exact hP) (by rw [z_cell1]; exact hD) hS
    · cases h
  · obtain ⟨l1, l2, l3, l4⟩ := hw4 (by first | rfl | assumption)
    replace h := z_i_v h
    obtain ⟨b, r, rfl, h⟩ := h
    replace h := z_i_v h
    obtain ⟨a, r, rfl, h⟩ := h
    split at h
    · rename_i hcond
      cases h
      have h8 := z_sum8 A hcond
      exact va_mmax hx hb (by rw [hml]; exact hl.1.symm) hown (hts _ l1) (hts _ l2) (hts _ l3) (hts _ l4) hR.1 (by omega) (Nat.le_trans hk.1 hR.2.2.1) (Nat.le_trans hk.2 hR.2.2.2) hdg (kk.stay hl hw hk)
    · cases h
  · obtain ⟨l1, l2, l3, l4⟩ := hw5 (by first | rfl | assumption)
    replace h := z_i_v h
    obtain ⟨b, r, rfl, h⟩ := h
    replace h := z_i_v h
    obtain ⟨a, r, rfl, h⟩ := h
    split at h
    · rename_i hcond
      cases h
      have h8 := z_sum8 A hcond
      exact va_mmin hx hb (by rw [hml]; exact hl.1.symm) hown (hts _ l1) (hts _ l2) (hts _ l3) (hts _ l4) hR.1 (by omega) (Nat.le_trans hk.1 hR.2.2.1) (Nat.le_trans hk.2 hR.2.2.2) hdg (kk.stay hl hw hk)
    · cases h
  · cases h
set_option maxHeartbeats 4000000 in
theorem z_step_ok {E : zE} (L : z_laws gt st nw cp) (hC : ∀ ci kd, z_at zCT ci = some kd → z_clsP ci kd) (hCast : ∀ ci, z_cast ci = true → ∃ C T N, zCl[ci]? = some (C, T, N) ∧ C ∈ zCN) (X : z_fix p s mi args meth c own ini cc nL) (hK : va_K D zCl (z_ty cA) s) (hA : ∀ q, H0.size ≤ q → F q) (hR : 1 ≤ R.frames ∧ 32 ≤ R.locals ∧ mc ≤ R.cells ∧ ms ≤ R.slots)
    (hscr : ∀ L xs, scr = some (L, xs) → va_X (A 1000000) L xs s H0 ∧ A 1000000 < H0.size ∧ ¬ F (A 1000000)) (hk : kc ≤ mc ∧ ks ≤ ms) (hl : z_Loc A loc ls nL) (hw : z_wd D cA F H0 A sh (gt m) H locs)
    (hE : z_okE own oc ini cc E) (h : z_step gt st nw cp mc ms scr E loc stk sh m kc ks = some t) (kk : z_K gt p l e R s mi args below meth c Q nL D cA F H0 mc ms A sh t) : W p l e R s mi args below meth c H locs kc ks Q (F0 mi E.1 ls (stk.map (z_val A))) := by
  obtain ⟨pc, i, x, y⟩ := E
  show W p l e R s mi args below meth c H locs kc ks Q (F0 mi pc ls (stk.map (z_val A)))
  cases i
  case iconst => exact z_s_iconst L hC hCast X hK hA hR hscr hk hl hw hE h kk
  case bipush => exact z_s_bipush L hC hCast X hK hA hR hscr hk hl hw hE h kk
  case sipush => exact z_s_sipush L hC hCast X hK hA hR hscr hk hl hw hE h kk
  case ldc2_w => exact z_s_ldc2 L hC hCast X hK hA hR hscr hk hl hw hE h kk
  case iload => exact z_s_iload L hC hCast X hK hA hR hscr hk hl hw hE h kk
  case iload_n => exact z_s_iload_n L hC hCast X hK hA hR hscr hk hl hw hE h kk
  case lload => exact z_s_lload L hC hCast X hK hA hR hscr hk hl hw hE h kk
  case lload_n => exact z_s_lload_n L hC hCast X hK hA hR hscr hk hl hw hE h kk
  case aload => exact z_s_aload L hC hCast X hK hA hR hscr hk hl hw hE h kk
  case aload_n => exact z_s_aload_n L hC hCast X hK hA hR hscr hk hl hw hE h kk
  case istore => exact z_s_istore L hC hCast X hK hA hR hscr hk hl hw hE h kk
  case istore_n => exact z_s_istore_n L hC hCast X hK hA hR hscr hk hl hw hE h kk
  case astore => exact z_s_astore L hC hCast X hK hA hR hscr hk hl hw hE h kk
  case astore_n => exact z_s_astore_n L hC hCast X hK hA hR hscr hk hl hw hE h kk
  case iinc => exact z_s_iinc L hC hCast X hK hA hR hscr hk hl hw hE h kk
  case iadd => exact z_s_iadd L hC hCast X hK hA hR hscr hk hl hw hE h kk
  case isub => exact z_s_isub L hC hCast X hK hA hR hscr hk hl hw hE h kk
  case imul => exact z_s_imul L hC hCast X hK hA hR hscr hk hl hw hE h kk
  case iand => exact z_s_iand L hC hCast X hK hA hR hscr hk hl hw hE h kk
  case ior => exact z_s_ior L hC hCast X hK hA hR hscr hk hl hw hE h kk
  case ixor => exact z_s_ixor L hC hCast X hK hA hR hscr hk hl hw hE h kk
  case ishl => exact z_s_ishl L hC hCast X hK hA hR hscr hk hl hw hE h kk
  case ishr => exact z_s_ishr L hC hCast X hK hA hR hscr hk hl hw hE h kk
  case idiv => exact z_s_idiv L hC hCast X hK hA hR hscr hk hl hw hE h kk
  case irem => exact z_s_irem L hC hCast X hK hA hR hscr hk hl hw hE h kk
  case land => exact z_s_land L hC hCast X hK hA hR hscr hk hl hw hE h kk
  case lor => exact z_s_lor L hC hCast X hK hA hR hscr hk hl hw hE h kk
  case lshl => exact z_s_lshl L hC hCast X hK hA hR hscr hk hl hw hE h kk
  case lshr => exact z_s_lshr L hC hCast X hK hA hR hscr hk hl hw hE h kk
  case lushr => exact z_s_lushr L hC hCast X hK hA hR hscr hk hl hw hE h kk
  case i2l => exact z_s_i2l L hC hCast X hK hA hR hscr hk hl hw hE h kk
  case l2i => exact z_s_l2i L hC hCast X hK hA hR hscr hk hl hw hE h kk
  case pop => exact z_s_pop L hC hCast X hK hA hR hscr hk hl hw hE h kk
  case dup => exact z_s_dup L hC hCast X hK hA hR hscr hk hl hw hE h kk
  case dup2 => exact z_s_dup2 L hC hCast X hK hA hR hscr hk hl hw hE h kk
  case goto => exact z_s_goto L hC hCast X hK hA hR hscr hk hl hw hE h kk
  case tableswitch => exact z_s_tsw L hC hCast X hK hA hR hscr hk hl hw hE h kk
  case getfield => exact z_s_getf L hC hCast X hK hA hR hscr hk hl hw hE h kk
  case putfield => exact z_s_putf L hC hCast X hK hA hR hscr hk hl hw hE h kk
  case iaload => exact z_s_iald L hC hCast X hK hA hR hscr hk hl hw hE h kk
  case baload => exact z_s_bald L hC hCast X hK hA hR hscr hk hl hw hE h kk
  case aaload => exact z_s_aald L hC hCast X hK hA hR hscr hk hl hw hE h kk
  case iastore => exact z_s_iast L hC hCast X hK hA hR hscr hk hl hw hE h kk
  case bastore => exact z_s_bast L hC hCast X hK hA hR hscr hk hl hw hE h kk
  case aastore => exact z_s_aast L hC hCast X hK hA hR hscr hk hl hw hE h kk
  case arraylength => exact z_s_alen L hC hCast X hK hA hR hscr hk hl hw hE h kk
  case new => exact z_s_new L hC hCast X hK hA hR hscr hk hl hw hE h kk
  case anewarray => exact z_s_anew L hC hCast X hK hA hR hscr hk hl hw hE h kk
  case invokespecial => exact z_s_oinit L hC hCast X hK hA hR hscr hk hl hw hE h kk
  case invokestatic => exact z_s_stat L hC hCast X hK hA hR hscr hk hl hw hE h kk
  case if_icmp cn o =>
    cases cn
    case eq => exact z_s_icmp_eq L hC hCast X hK hA hR hscr hk hl hw hE h kk
    case ne => exact z_s_icmp_ne L hC hCast X hK hA hR hscr hk hl hw hE h kk
    case lt => exact z_s_icmp_lt L hC hCast X hK hA hR hscr hk hl hw hE h kk
    case ge => exact z_s_icmp_ge L hC hCast X hK hA hR hscr hk hl hw hE h kk
    case gt => exact z_s_icmp_gt L hC hCast X hK hA hR hscr hk hl hw hE h kk
    case le => exact z_s_icmp_le L hC hCast X hK hA hR hscr hk hl hw hE h kk
  case ifCond cn o =>
    cases cn
    case eq => exact z_s_if_eq L hC hCast X hK hA hR hscr hk hl hw hE h kk
    case ne => exact z_s_if_ne L hC hCast X hK hA hR hscr hk hl hw hE h kk
    case lt => exact z_s_if_lt L hC hCast X hK hA hR hscr hk hl hw hE h kk
    case ge => exact z_s_if_ge L hC hCast X hK hA hR hscr hk hl hw hE h kk
    case gt => exact z_s_if_gt L hC hCast X hK hA hR hscr hk hl hw hE h kk
    case le => exact z_s_if_le L hC hCast X hK hA hR hscr hk hl hw hE h kk
  case newarray a =>
    cases a
    case int => exact z_s_newi L hC hCast X hK hA hR hscr hk hl hw hE h kk
    case boolean => exact z_s_newz L hC hCast X hK hA hR hscr hk hl hw hE h kk
    all_goals exact absurd (show (none : Option (zT μ)) = some t from h) (fun q => by cases q)
  all_goals exact absurd (show (none : Option (zT μ)) = some t from h) (fun q => by cases q)
end ZS
