section ZS
variable {μ : Type} {gt : μ → Nat → Nat → Int32} {st : μ → Nat → Nat → Int32 → μ} {nw : μ → Nat → μ} {cp : μ → Nat → Nat → Nat → Nat → Nat → μ}
  {p : Program} {l : Launch} {e : Env} {R : Room} {s : State} {mi : MethodId} {args : Array Value} {below : List Frame} {meth : Method} {c : Code} {H H0 : Heap} {locs : List Loc} {Q : State → Prop}
  {own : String} {oc : Nat} {ini : Bool} {cc : ByteArray} {nL : Nat} {D : va_G} {cA : Nat → ClassId} {F : Nat → Prop} {A : Nat → Nat} {ls : Array Slot} {mc ms : Nat} {scr : Option (Nat × (Nat → Int32))}
  {loc : List (Option Value)} {stk : List Value} {sh : List zS} {m : μ} {kc ks : Nat} {t : zT μ} {pc x y : Nat}
theorem z_s_getf {n : Nat} (L : z_laws gt st nw cp) (hC : ∀ ci kd, z_at zCT ci = some kd → z_clsP ci kd) (hCast : ∀ ci, z_cast ci = true → ∃ C T N, zCl[ci]? = some (C, T, N) ∧ C ∈ zCN) (X : z_fix p s mi args meth c own ini cc nL) (hK : va_K D zCl (z_ty cA) s) (hA : ∀ q, H0.size ≤ q → F q) (hR : 1 ≤ R.frames ∧ 32 ≤ R.locals ∧ mc ≤ R.cells ∧ ms ≤ R.slots)
    (hscr : ∀ L xs, scr = some (L, xs) → va_X (A 1000000) L xs s H0 ∧ A 1000000 < H0.size ∧ ¬ F (A 1000000)) (hk : kc ≤ mc ∧ ks ≤ ms) (hl : z_Loc A loc ls nL) (hw : z_wd D cA F H0 A sh (gt m) H locs)
    (hE : z_okE own oc ini cc (pc, .getfield n, x, y)) (h : z_step gt st nw cp mc ms scr (pc, .getfield n, x, y) loc stk sh m kc ks = some t) (kk : z_K gt p l e R s mi args below meth c Q nL D cA F H0 mc ms A sh t) : W p l e R s mi args below meth c H locs kc ks Q (F0 mi pc ls (stk.map (z_val A))) := by
  obtain ⟨hx, hb, hml, hown, hts, hN, hini⟩ := X
  obtain ⟨hdg, hf⟩ := hE
  replace h := z_r_v h
  obtain ⟨q, r, rfl, h⟩ := h
  replace h := z_obj_v h
  obtain ⟨rs, hs, h⟩ := h
  cases hkd : z_at zCT x with
  | none =>
    simp only [hkd] at h
    cases h
  | some kd =>
    simp only [hkd] at h
    obtain ⟨C, T, ty, hc1, hin, -, -, -, -, -⟩ := hC x kd hkd
    obtain ⟨C', T', N', hc2, hkN, hlink⟩ := hf
    obtain ⟨rfl, rfl, rfl⟩ : C = C' ∧ T = T' ∧ kd.length = N' := by
      have := Option.some.inj (hc1.symm.trans hc2)
      simp only [Prod.mk.injEq] at this
      exact this
    cases hq : z_at kd y with
    | none =>
      simp only [hq] at h
      cases h
    | some w =>
      simp only [hq] at h
      have he : (z_W A cA sh (gt m))[q]? = some (A q, .inr (x, z_fs A kd rs (gt m q))) := by
        rw [z_W_g hs, z_cell0, hkd]
        rfl
      have hv := z_fs_at (A := A) (rs := rs) (f := gt m q) hq
      have go : ∀ v : Value, (z_fs A kd rs (gt m q))[y]? = some v → W p l e R s mi args below meth c H locs kc ks Q (F0 mi (pc + 3) ls (v :: r.map (z_val A))) → W p l e R s mi args below meth c H locs kc ks Q (F0 mi pc ls ((Value.ref q :: r).map (z_val A))) := by
        intro v hv k
        rcases hlink with hlink | ⟨host, hlink⟩
        · exact va_get hx hb hts hin hown hK hw.1 q he hc1 y hkN (hts _ hlink) (fun _ h9 => h9) hv hdg k
        · exact va_getN hx hb hts hin hown hK hw.1 q he hc1 y hkN (va_Nw.use rfl (hN.1 _ hlink)) (fun _ h9 => h9) hv hdg k
      by_cases h2 : w < 2
      · rw [if_pos h2] at h hv
        cases h
        exact go _ hv (kk.stay hl hw hk)
      · rw [if_neg h2] at h hv
        cases hr : z_at rs y with
        | none =>
          simp only [hr] at h
          cases h
        | some v =>
          simp only [hr] at h
          cases h
          rw [hr] at hv
          have := kk.stay hl hw hk
          simp only [List.map_cons, z_rv_val] at this
          exact go _ hv this
theorem z_s_putf {n : Nat} (L : z_laws gt st nw cp) (hC : ∀ ci kd, z_at zCT ci = some kd → z_clsP ci kd) (hCast : ∀ ci, z_cast ci = true → ∃ C T N, zCl[ci]? = some (C, T, N) ∧ C ∈ zCN) (X : z_fix p s mi args meth c own ini cc nL) (hK : va_K D zCl (z_ty cA) s) (hA : ∀ q, H0.size ≤ q → F q) (hR : 1 ≤ R.frames ∧ 32 ≤ R.locals ∧ mc ≤ R.cells ∧ ms ≤ R.slots)
    (hscr : ∀ L xs, scr = some (L, xs) → va_X (A 1000000) L xs s H0 ∧ A 1000000 < H0.size ∧ ¬ F (A 1000000)) (hk : kc ≤ mc ∧ ks ≤ ms) (hl : z_Loc A loc ls nL) (hw : z_wd D cA F H0 A sh (gt m) H locs)
    (hE : z_okE own oc ini cc (pc, .putfield n, x, y)) (h : z_step gt st nw cp mc ms scr (pc, .putfield n, x, y) loc stk sh m kc ks = some t) (kk : z_K gt p l e R s mi args below meth c Q nL D cA F H0 mc ms A sh t) : W p l e R s mi args below meth c H locs kc ks Q (F0 mi pc ls (stk.map (z_val A))) := by
  obtain ⟨hx, hb, hml, hown, hts, hN, hini⟩ := X
  obtain ⟨hdg, hf, hfin⟩ := hE
  change z_putf st x y (pc + 3) loc stk sh m kc ks = some t at h
  unfold z_putf at h
  cases hkd : z_at zCT x with
  | none =>
    simp only [hkd] at h
    cases h
  | some kd =>
    simp only [hkd] at h
    obtain ⟨C, T, ty, hc1, hin, hty, hnm, hkind, -, -⟩ := hC x kd hkd
    obtain ⟨C', T', N', hc2, hkN, hlink⟩ := hf
    obtain ⟨rfl, rfl, rfl⟩ : C = C' ∧ T = T' ∧ kd.length = N' := by
      have := Option.some.inj (hc1.symm.trans hc2)
      simp only [Prod.mk.injEq] at this
      exact this
    have hkq := hkind y hkN
    have hgd : z_at kd y = some (kd.getD y 9) := by
      rw [z_at_eq, List.getD_eq_getElem?_getD, List.getElem?_eq_getElem hkN]
      rfl
    rw [hgd] at h
    have go : ∀ (q : Nat) (rs : List (Option Nat)) (v : Value) (r : List Value), z_at sh q = some (0, x, rs) → (T y).2.2.2 = false → narrow (ty y) v = v → fits (ty y) v = true →
        (∀ (H1 : Heap) (locs1 : List Loc), va_P D zCl ((z_W A cA sh (gt m)).set q (A q, .inr (x, (z_fs A kd rs (gt m q)).set y v))) H1 → va_D F ((z_W A cA sh (gt m)).set q (A q, .inr (x, (z_fs A kd rs (gt m q)).set y v))) → va_S F H0 H1 locs1 → W p l e R s mi args below meth c H1 locs1 kc ks Q (F0 mi (pc + 3) ls (r.map (z_val A)))) →
        W p l e R s mi args below meth c H locs kc ks Q (F0 mi pc ls (v :: .ref (A q) :: r.map (z_val A))) := by
      intro q rs v r hs hnf hn hfit k
      have he : (z_W A cA sh (gt m))[q]? = some (A q, .inr (x, z_fs A kd rs (gt m q))) := by
        rw [z_W_g hs, z_cell0, hkd]
        rfl
      rcases hlink with hlink | ⟨host, hlink⟩
      · exact va_put hx hb hts hin ty hty hnm hown hK hw.1 hw.2.1 hw.2.2 q he hc1 y hkN (hts _ hlink) (fun _ h9 => h9) hnf (hty y hkN) hn hfit (by rw [z_fs_len]; exact hkN) hdg k
      · exact va_putN hx hb hts hin ty hty hnm hown hK hw.1 hw.2.1 hw.2.2 q he hc1 y hkN (va_Nw.use rfl (hN.1 _ hlink)) (fun _ h9 => h9) hnf (hty y hkN) hn hfit (by rw [z_fs_len]; exact hkN) hdg k
    have gi : ∀ (q : Nat) (rs : List (Option Nat)) (v : Int32) (r : List Value) (w : Nat), z_at sh q = some (0, x, rs) → z_at kd y = some w → w < 2 → z_K gt p l e R s mi args below meth c Q nL D cA F H0 mc ms A sh (pc + 3, loc, r, sh, st m q y v, kc, ks) →
        ∀ (H1 : Heap) (locs1 : List Loc), va_P D zCl ((z_W A cA sh (gt m)).set q (A q, .inr (x, (z_fs A kd rs (gt m q)).set y (.int v)))) H1 → va_D F ((z_W A cA sh (gt m)).set q (A q, .inr (x, (z_fs A kd rs (gt m q)).set y (.int v)))) → va_S F H0 H1 locs1 → W p l e R s mi args below meth c H1 locs1 kc ks Q (F0 mi (pc + 3) ls (r.map (z_val A))) := by
      intro q rs v r w hs hw1 hw2 kk H1 locs1 hP hD hS
      have e1 : z_cell A cA (0, x, rs) (upd (gt m q) y v) = .inr (x, (z_fs A kd rs (gt m q)).set y (.int v)) := by
        rw [z_cell0, hkd]
        show Sum.inr (x, z_fs A kd rs (upd (gt m q) y v)) = _
        rw [z_fs_seti hw1 hw2]
      exact kk.mem hl hk hs (L.1 m q y v) (by rw [e1]; exact hP) (by rw [e1]; exact hD) hS
    rcases hkq with ⟨h0, hti, hnf⟩ | ⟨h0, hti, hnf⟩ | ⟨h0, hti, hnf⟩ | ⟨h0, hti, hff, hCC⟩
    · rw [h0] at h hgd
      replace h := z_i_v h
      obtain ⟨v, r, rfl, h⟩ := h
      replace h := z_r_v h
      obtain ⟨q, r, rfl, h⟩ := h
      replace h := z_obj_v h
      obtain ⟨rs, hs, h⟩ := h
      cases h
      exact go q rs (.int v) r hs hnf (by rw [hti]; rfl) (by rw [hti]; rfl) (gi q rs v r 0 hs hgd (by decide) kk)
    · rw [h0] at h hgd
      replace h := z_i_v h
      obtain ⟨v, r, rfl, h⟩ := h
      replace h := z_r_v h
      obtain ⟨q, r, rfl, h⟩ := h
      replace h := z_obj_v h
      obtain ⟨rs, hs, h⟩ := h
      by_cases h01 : v = 0 ∨ v = 1
      · rw [if_pos h01] at h
        cases h
        exact go q rs (.int v) r hs hnf (by rw [hti]; rcases h01 with rfl | rfl <;> decide) (by rw [hti]; rcases h01 with rfl | rfl <;> decide) (gi q rs v r 1 hs hgd (by decide) kk)
      · rw [if_neg h01] at h
        cases h
    · rw [h0] at h hgd
      replace h := z_r_v h
      obtain ⟨v, r, rfl, h⟩ := h
      replace h := z_r_v h
      obtain ⟨q, r, rfl, h⟩ := h
      replace h := z_obj_v h
      obtain ⟨rs, hs, h⟩ := h
      by_cases hy : y < rs.length
      · rw [if_pos hy] at h
        cases h
        have hnn : narrow (ty y) (.ref (A v)) = .ref (A v) ∧ fits (ty y) (.ref (A v)) = true := by
          cases hq : ty y <;> rw [hq] at hti <;> first | exact ⟨rfl, rfl⟩ | simp [refKind] at hti
        refine go q rs (.ref (A v)) r hs hnf hnn.1 hnn.2 (fun H1 locs1 hP hD hS => ?_)
        have e1 : z_cell A cA (0, x, rs.set y (some v)) (gt m q) = .inr (x, (z_fs A kd rs (gt m q)).set y (.ref (A v))) := by
          rw [z_cell0, hkd]
          show Sum.inr (x, z_fs A kd (rs.set y (some v)) (gt m q)) = _
          rw [z_fs_setr hgd (by decide) hy]
        exact kk.shp hl hk hs (by rw [e1]; exact hP) (by rw [e1]; exact hD) hS
      · rw [if_neg hy] at h
        cases h
    · rw [h0] at h hgd
      replace h := z_r_v h
      obtain ⟨v, r, rfl, h⟩ := h
      replace h := z_r_v h
      obtain ⟨q, r, rfl, h⟩ := h
      replace h := z_obj_v h
      obtain ⟨rs, hs, h⟩ := h
      by_cases hy : y < rs.length
      · rw [if_pos hy] at h
        cases h
        have hnn : narrow (ty y) (.ref (A v)) = .ref (A v) ∧ fits (ty y) (.ref (A v)) = true := by
          cases hq : ty y <;> rw [hq] at hti <;> first | exact ⟨rfl, rfl⟩ | simp [refKind] at hti
        obtain ⟨hi1, hi2, T2, N2, hc3, hl3⟩ := hfin kd hkd h0
        dsimp only at hi2 hl3
        rw [hc1] at hc3
        obtain ⟨hCo, rfl, -⟩ : C = own ∧ T = T2 ∧ kd.length = N2 := by
          have := Option.some.inj hc3
          simp only [Prod.mk.injEq] at this
          exact this
        have e1 : z_cell A cA (0, x, rs.set y (some v)) (gt m q) = .inr (x, (z_fs A kd rs (gt m q)).set y (.ref (A v))) := by
          rw [z_cell0, hkd]
          show Sum.inr (x, z_fs A kd (rs.set y (some v)) (gt m q)) = _
          rw [z_fs_setr hgd (by decide) hy]
        have he : (z_W A cA sh (gt m))[q]? = some (A q, .inr (x, z_fs A kd rs (gt m q))) := by
          rw [z_W_g hs, z_cell0, hkd]
          rfl
        exact va_putF hx hb hts hin ty hty hnm hown hK hw.1 hw.2.1 hw.2.2 q he hc1 y hkN (hts _ hl3) (fun _ h9 => h9) hff (hini hi1) (hCC.trans hCo) (hty y hkN) hnn.1 hnn.2 (by rw [z_fs_len]; exact hkN) hdg (fun H1 locs1 hP hD hS => kk.shp hl hk hs (by rw [e1]; exact hP) (by rw [e1]; exact hD) hS)
      · rw [if_neg hy] at h
        cases h
theorem z_s_iald (L : z_laws gt st nw cp) (hC : ∀ ci kd, z_at zCT ci = some kd → z_clsP ci kd) (hCast : ∀ ci, z_cast ci = true → ∃ C T N, zCl[ci]? = some (C, T, N) ∧ C ∈ zCN) (X : z_fix p s mi args meth c own ini cc nL) (hK : va_K D zCl (z_ty cA) s) (hA : ∀ q, H0.size ≤ q → F q) (hR : 1 ≤ R.frames ∧ 32 ≤ R.locals ∧ mc ≤ R.cells ∧ ms ≤ R.slots)
    (hscr : ∀ L xs, scr = some (L, xs) → va_X (A 1000000) L xs s H0 ∧ A 1000000 < H0.size ∧ ¬ F (A 1000000)) (hk : kc ≤ mc ∧ ks ≤ ms) (hl : z_Loc A loc ls nL) (hw : z_wd D cA F H0 A sh (gt m) H locs)
    (hE : z_okE own oc ini cc (pc, .iaload, x, y)) (h : z_step gt st nw cp mc ms scr (pc, .iaload, x, y) loc stk sh m kc ks = some t) (kk : z_K gt p l e R s mi args below meth c Q nL D cA F H0 mc ms A sh t) : W p l e R s mi args below meth c H locs kc ks Q (F0 mi pc ls (stk.map (z_val A))) := by
  obtain ⟨hx, hb, hml, hown, hts, hN, hini⟩ := X
  obtain ⟨hdg, -⟩ := hE
  replace h := z_i_v h
  obtain ⟨i, r, rfl, h⟩ := h
  replace h := z_r_v h
  obtain ⟨q, r, rfl, h⟩ := h
  by_cases hq : q = 1000000
  · subst hq
    rw [if_pos rfl] at h
    cases hsc : scr with
    | none =>
      subst hsc
      cases h
    | some w =>
      subst hsc
      obtain ⟨h1, h2, h3⟩ := hscr w.1 w.2 rfl
      dsimp only at h
      by_cases hi : z_in i w.1 = true
      · rw [if_pos hi] at h
        cases h
        exact va_sld hx hb h1 h2 h3 hw.2.2 (z_in_v hi) hdg (kk.stay hl hw hk)
      · rw [if_neg hi] at h
        cases h
  · rw [if_neg hq] at h
    replace h := z_ints_v h
    obtain ⟨n, rs, hs, h⟩ := h
    by_cases hi : z_in i n = true
    · rw [if_pos hi] at h
      cases h
      exact va_iald hx hb hK hw.1 q 0 (by rw [z_W_g hs, z_cell1]) rfl (z_in_v hi) hdg (kk.stay hl hw hk)
    · rw [if_neg hi] at h
      cases h
theorem z_s_bald (L : z_laws gt st nw cp) (hC : ∀ ci kd, z_at zCT ci = some kd → z_clsP ci kd) (hCast : ∀ ci, z_cast ci = true → ∃ C T N, zCl[ci]? = some (C, T, N) ∧ C ∈ zCN) (X : z_fix p s mi args meth c own ini cc nL) (hK : va_K D zCl (z_ty cA) s) (hA : ∀ q, H0.size ≤ q → F q) (hR : 1 ≤ R.frames ∧ 32 ≤ R.locals ∧ mc ≤ R.cells ∧ ms ≤ R.slots)
    (hscr : ∀ L xs, scr = some (L, xs) → va_X (A 1000000) L xs s H0 ∧ A 1000000 < H0.size ∧ ¬ F (A 1000000)) (hk : kc ≤ mc ∧ ks ≤ ms) (hl : z_Loc A loc ls nL) (hw : z_wd D cA F H0 A sh (gt m) H locs)
    (hE : z_okE own oc ini cc (pc, .baload, x, y)) (h : z_step gt st nw cp mc ms scr (pc, .baload, x, y) loc stk sh m kc ks = some t) (kk : z_K gt p l e R s mi args below meth c Q nL D cA F H0 mc ms A sh t) : W p l e R s mi args below meth c H locs kc ks Q (F0 mi pc ls (stk.map (z_val A))) := by
  obtain ⟨hx, hb, hml, hown, hts, hN, hini⟩ := X
  obtain ⟨hdg, -⟩ := hE
  replace h := z_i_v h
  obtain ⟨i, r, rfl, h⟩ := h
  replace h := z_r_v h
  obtain ⟨q, r, rfl, h⟩ := h
  replace h := z_bools_v h
  obtain ⟨n, rs, hs, h⟩ := h
  by_cases hi : z_in i n = true
  · rw [if_pos hi] at h
    cases h
    exact va_zald hx hb hK hw.1 q 1 (by rw [z_W_g hs, z_cell2]) rfl (z_in_v hi) hdg (kk.stay hl hw hk)
  · rw [if_neg hi] at h
    cases h
theorem z_s_aald (L : z_laws gt st nw cp) (hC : ∀ ci kd, z_at zCT ci = some kd → z_clsP ci kd) (hCast : ∀ ci, z_cast ci = true → ∃ C T N, zCl[ci]? = some (C, T, N) ∧ C ∈ zCN) (X : z_fix p s mi args meth c own ini cc nL) (hK : va_K D zCl (z_ty cA) s) (hA : ∀ q, H0.size ≤ q → F q) (hR : 1 ≤ R.frames ∧ 32 ≤ R.locals ∧ mc ≤ R.cells ∧ ms ≤ R.slots)
    (hscr : ∀ L xs, scr = some (L, xs) → va_X (A 1000000) L xs s H0 ∧ A 1000000 < H0.size ∧ ¬ F (A 1000000)) (hk : kc ≤ mc ∧ ks ≤ ms) (hl : z_Loc A loc ls nL) (hw : z_wd D cA F H0 A sh (gt m) H locs)
    (hE : z_okE own oc ini cc (pc, .aaload, x, y)) (h : z_step gt st nw cp mc ms scr (pc, .aaload, x, y) loc stk sh m kc ks = some t) (kk : z_K gt p l e R s mi args below meth c Q nL D cA F H0 mc ms A sh t) : W p l e R s mi args below meth c H locs kc ks Q (F0 mi pc ls (stk.map (z_val A))) := by
  obtain ⟨hx, hb, hml, hown, hts, hN, hini⟩ := X
  obtain ⟨hdg, -⟩ := hE
  replace h := z_i_v h
  obtain ⟨i, r, rfl, h⟩ := h
  replace h := z_r_v h
  obtain ⟨q, r, rfl, h⟩ := h
  replace h := z_refs_v h
  obtain ⟨n, rs, hs, h⟩ := h
  by_cases hi : z_in i n = true
  · rw [if_pos hi] at h
    cases hv : z_at rs i.toNatClampNeg with
    | none =>
      simp only [hv] at h
      cases h
    | some v =>
      simp only [hv] at h
      cases h
      have k9 := kk.stay hl hw hk
      simp only [List.map_cons, z_rv_val] at k9
      refine va_aldq hx hb hK hw.1 q 2 (by rw [z_W_g hs, z_cell3]) rfl (z_in_v hi) hdg ?_
      rw [hv]
      exact k9
  · rw [if_neg hi] at h
    cases h
theorem z_s_iast (L : z_laws gt st nw cp) (hC : ∀ ci kd, z_at zCT ci = some kd → z_clsP ci kd) (hCast : ∀ ci, z_cast ci = true → ∃ C T N, zCl[ci]? = some (C, T, N) ∧ C ∈ zCN) (X : z_fix p s mi args meth c own ini cc nL) (hK : va_K D zCl (z_ty cA) s) (hA : ∀ q, H0.size ≤ q → F q) (hR : 1 ≤ R.frames ∧ 32 ≤ R.locals ∧ mc ≤ R.cells ∧ ms ≤ R.slots)
    (hscr : ∀ L xs, scr = some (L, xs) → va_X (A 1000000) L xs s H0 ∧ A 1000000 < H0.size ∧ ¬ F (A 1000000)) (hk : kc ≤ mc ∧ ks ≤ ms) (hl : z_Loc A loc ls nL) (hw : z_wd D cA F H0 A sh (gt m) H locs)
    (hE : z_okE own oc ini cc (pc, .iastore, x, y)) (h : z_step gt st nw cp mc ms scr (pc, .iastore, x, y) loc stk sh m kc ks = some t) (kk : z_K gt p l e R s mi args below meth c Q nL D cA F H0 mc ms A sh t) : W p l e R s mi args below meth c H locs kc ks Q (F0 mi pc ls (stk.map (z_val A))) := by
  obtain ⟨hx, hb, hml, hown, hts, hN, hini⟩ := X
  obtain ⟨hdg, -⟩ := hE
  replace h := z_i_v h
  obtain ⟨v, r, rfl, h⟩ := h
  replace h := z_i_v h
  obtain ⟨i, r, rfl, h⟩ := h
  replace h := z_r_v h
  obtain ⟨q, r, rfl, h⟩ := h
  replace h := z_ints_v h
  obtain ⟨n, rs, hs, h⟩ := h
  by_cases hi : z_in i n = true
  · rw [if_pos hi] at h
    cases h
    exact va_iast hx hb hK hw.1 hw.2.1 hw.2.2 q 0 (by rw [z_W_g hs, z_cell1]) rfl (z_in_v hi) hdg (fun H1 locs1 hP hD hS => kk.mem hl hk hs (L.1 m q i.toNatClampNeg v) (by rw [z_cell1]; exact hP) (by rw [z_cell1]; exact hD) hS)
  · rw [if_neg hi] at h
    cases h
theorem z_s_bast (L : z_laws gt st nw cp) (hC : ∀ ci kd, z_at zCT ci = some kd → z_clsP ci kd) (hCast : ∀ ci, z_cast ci = true → ∃ C T N, zCl[ci]? = some (C, T, N) ∧ C ∈ zCN) (X : z_fix p s mi args meth c own ini cc nL) (hK : va_K D zCl (z_ty cA) s) (hA : ∀ q, H0.size ≤ q → F q) (hR : 1 ≤ R.frames ∧ 32 ≤ R.locals ∧ mc ≤ R.cells ∧ ms ≤ R.slots)
    (hscr : ∀ L xs, scr = some (L, xs) → va_X (A 1000000) L xs s H0 ∧ A 1000000 < H0.size ∧ ¬ F (A 1000000)) (hk : kc ≤ mc ∧ ks ≤ ms) (hl : z_Loc A loc ls nL) (hw : z_wd D cA F H0 A sh (gt m) H locs)
    (hE : z_okE own oc ini cc (pc, .bastore, x, y)) (h : z_step gt st nw cp mc ms scr (pc, .bastore, x, y) loc stk sh m kc ks = some t) (kk : z_K gt p l e R s mi args below meth c Q nL D cA F H0 mc ms A sh t) : W p l e R s mi args below meth c H locs kc ks Q (F0 mi pc ls (stk.map (z_val A))) := by
  obtain ⟨hx, hb, hml, hown, hts, hN, hini⟩ := X
  obtain ⟨hdg, -⟩ := hE
  replace h := z_i_v h
  obtain ⟨v, r, rfl, h⟩ := h
  replace h := z_i_v h
  obtain ⟨i, r, rfl, h⟩ := h
  replace h := z_r_v h
  obtain ⟨q, r, rfl, h⟩ := h
  replace h := z_bools_v h
  obtain ⟨n, rs, hs, h⟩ := h
  by_cases hi : z_in i n = true
  · rw [if_pos hi] at h
    cases h
    exact va_zast hx hb hK hw.1 hw.2.1 hw.2.2 q 1 (by rw [z_W_g hs, z_cell2]) rfl (z_in_v hi) hdg (fun H1 locs1 hP hD hS => kk.mem hl hk hs (L.1 m q i.toNatClampNeg (vp_nar .boolean v)) (by rw [z_cell2]; exact hP) (by rw [z_cell2]; exact hD) hS)
  · rw [if_neg hi] at h
    cases h
theorem z_s_aast (L : z_laws gt st nw cp) (hC : ∀ ci kd, z_at zCT ci = some kd → z_clsP ci kd) (hCast : ∀ ci, z_cast ci = true → ∃ C T N, zCl[ci]? = some (C, T, N) ∧ C ∈ zCN) (X : z_fix p s mi args meth c own ini cc nL) (hK : va_K D zCl (z_ty cA) s) (hA : ∀ q, H0.size ≤ q → F q) (hR : 1 ≤ R.frames ∧ 32 ≤ R.locals ∧ mc ≤ R.cells ∧ ms ≤ R.slots)
    (hscr : ∀ L xs, scr = some (L, xs) → va_X (A 1000000) L xs s H0 ∧ A 1000000 < H0.size ∧ ¬ F (A 1000000)) (hk : kc ≤ mc ∧ ks ≤ ms) (hl : z_Loc A loc ls nL) (hw : z_wd D cA F H0 A sh (gt m) H locs)
    (hE : z_okE own oc ini cc (pc, .aastore, x, y)) (h : z_step gt st nw cp mc ms scr (pc, .aastore, x, y) loc stk sh m kc ks = some t) (kk : z_K gt p l e R s mi args below meth c Q nL D cA F H0 mc ms A sh t) : W p l e R s mi args below meth c H locs kc ks Q (F0 mi pc ls (stk.map (z_val A))) := by
  obtain ⟨hx, hb, hml, hown, hts, hN, hini⟩ := X
  obtain ⟨hdg, -⟩ := hE
  replace h := z_r_v h
  obtain ⟨v, r, rfl, h⟩ := h
  replace h := z_i_v h
  obtain ⟨i, r, rfl, h⟩ := h
  replace h := z_r_v h
  obtain ⟨q, r, rfl, h⟩ := h
  replace h := z_refs_v h
  obtain ⟨n, rs, hs, h⟩ := h
  by_cases hi : z_in i n = true
  · rw [if_pos hi] at h
    split at h
    · rename_i ci rs2 hv
      by_cases hcc : z_cast ci = true ∧ i.toNatClampNeg < rs.length
      · rw [if_pos hcc] at h
        cases h
        obtain ⟨C, T, N, hc1, hcn⟩ := hCast ci hcc.1
        have e1 : z_cell A cA (3, n, rs.set i.toNatClampNeg (some v)) (gt m q) = .inl (cA 2, n, .inr (.inr (.inr (.inr (va_up (fun j => ((z_at rs j).getD none).map A) i.toNatClampNeg (some (A v))))))) := by
          rw [z_cell3, z_rs_set hcc.2]
        exact va_astqO hx hb hK hw.1 hw.2.1 hw.2.2 q 2 v ci (by rw [z_W_g hs, z_cell3]) rfl (hN.2.2.2.1 _ hcn) (by rw [z_W_g hv, z_cell0]) hc1 (z_in_v hi) hdg (fun H1 locs1 hP hD hS => kk.shp hl hk hs (by rw [e1]; exact hP) (by rw [e1]; exact hD) hS)
      · rw [if_neg hcc] at h
        cases h
    · cases h
  · rw [if_neg hi] at h
    cases h
theorem z_s_alen (L : z_laws gt st nw cp) (hC : ∀ ci kd, z_at zCT ci = some kd → z_clsP ci kd) (hCast : ∀ ci, z_cast ci = true → ∃ C T N, zCl[ci]? = some (C, T, N) ∧ C ∈ zCN) (X : z_fix p s mi args meth c own ini cc nL) (hK : va_K D zCl (z_ty cA) s) (hA : ∀ q, H0.size ≤ q → F q) (hR : 1 ≤ R.frames ∧ 32 ≤ R.locals ∧ mc ≤ R.cells ∧ ms ≤ R.slots)
    (hscr : ∀ L xs, scr = some (L, xs) → va_X (A 1000000) L xs s H0 ∧ A 1000000 < H0.size ∧ ¬ F (A 1000000)) (hk : kc ≤ mc ∧ ks ≤ ms) (hl : z_Loc A loc ls nL) (hw : z_wd D cA F H0 A sh (gt m) H locs)
    (hE : z_okE own oc ini cc (pc, .arraylength, x, y)) (h : z_step gt st nw cp mc ms scr (pc, .arraylength, x, y) loc stk sh m kc ks = some t) (kk : z_K gt p l e R s mi args below meth c Q nL D cA F H0 mc ms A sh t) : W p l e R s mi args below meth c H locs kc ks Q (F0 mi pc ls (stk.map (z_val A))) := by
  obtain ⟨hx, hb, hml, hown, hts, hN, hini⟩ := X
  obtain ⟨hdg, -⟩ := hE
  replace h := z_r_v h
  obtain ⟨q, r, rfl, h⟩ := h
  by_cases hq : q = 1000000
  · subst hq
    rw [if_pos rfl] at h
    cases hsc : scr with
    | none =>
      subst hsc
      cases h
    | some w =>
      subst hsc
      obtain ⟨h1, h2, h3⟩ := hscr w.1 w.2 rfl
      cases h
      exact va_slen hx hb h1 h2 h3 hw.2.2 hdg (kk.stay hl hw hk)
  · rw [if_neg hq] at h
    split at h
    · cases h
    · rename_i k n rs hne hs
      cases h
      match k, hs, hne with
      | 0, hs, hne => exact absurd rfl hne
      | 1, hs, _ => exact va_alen hx hb hK hw.1 q 0 (x := (n, .inl (gt m q))) (by rw [z_W_g hs, z_cell1]) rfl rfl hdg (kk.stay hl hw hk)
      | 2, hs, _ => exact va_alen hx hb hK hw.1 q 1 (x := (n, .inl (gt m q))) (by rw [z_W_g hs, z_cell2]) rfl rfl hdg (kk.stay hl hw hk)
      | k + 3, hs, _ => exact va_alen hx hb hK hw.1 q 2 (x := (n, .inr (.inr (.inr (.inr (fun j => ((z_at rs j).getD none).map A)))))) (by rw [z_W_g hs]; rfl) rfl rfl hdg (kk.stay hl hw hk)
    · cases h
end ZS
