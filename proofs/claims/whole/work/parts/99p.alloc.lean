section IAlloc
variable {scr : iS} {P : zP} {pc : Nat} {loc : List (Option iV)} {stk : List iV} {sh : List zS} {M : iM} {kc ks : Nat} {q : Option Int × List zS × iM} {x y : Nat}
theorem i_step2 {E : zE} {pc' : Nat} {loc' : List (Option iV)} {stk' : List iV} {sh' : List zS} {M' : iM} {kc' ks' : Nat} (hE : z_find (z_cd P) pc = some E) (hk : z_kd E.2.1 E.2.2.1 = 3)
    (hs : i_MR M → (∀ v ∈ loc, i_okO v) → (∀ v ∈ stk, i_ok v) → (i_MR M' ∧ (∀ v ∈ loc', i_okO v) ∧ (∀ v ∈ stk', i_ok v)) ∧ z_step f_gt f_st f_nw f_cp (z_mc P) (z_ms P) scr E (loc.map (Option.map i_v)) (stk.map i_v) sh (i_M M) kc ks = some (pc', loc'.map (Option.map i_v), stk'.map i_v, sh', i_M M', kc', ks'))
    (k : irun scr P pc' loc' stk' sh' M' kc' ks' q) : irun scr P pc loc stk sh M kc ks q := by
  intro h1 h2 h3
  obtain ⟨⟨a1, a2, a3⟩, hs⟩ := hs h1 h2 h3
  obtain ⟨b1, b2, b3⟩ := k a1 a2 a3
  exact ⟨b1, b2, z_run_step hE hk hs b3⟩
theorem i_MR_nw {M : iM} (h : i_MR M) (n : Nat) : i_MR (va_up M n (fun _ => 0)) := by
  intro c k
  unfold va_up
  by_cases e : c = n
  · rw [if_pos e]; exact iR_0
  · rw [if_neg e]; exact h c k
theorem i_M_nw (M : iM) (n : Nat) : f_nw (i_M M) n = i_M (va_up M n (fun _ => 0)) := by
  funext c j
  unfold f_nw i_M va_up
  by_cases e : c = n
  · rw [if_pos e, if_pos e]; rfl
  · rw [if_neg e, if_neg e]
theorem i_new {n : Nat} {kd : List Nat} (hE : z_find (z_cd P) pc = some (pc, .new n, x, y)) (hk : z_at zCT x = some kd) (ha : z_all sh.length (loc.map (Option.map i_v)) (stk.map i_v) = true) (hs : z_allS sh.length sh = true) (hl : sh.length < 1000) (hc : kc + 1 ≤ z_mc P) (hm : ks + kd.length ≤ z_ms P) (k : irun scr P (pc + 3) loc (iP sh.length :: stk) (sh ++ [(0, x, z_none kd.length)]) (va_up M sh.length (fun _ => 0)) (kc + 1) (ks + kd.length) q) : irun scr P pc loc stk sh M kc ks q := by
  refine i_step2 hE rfl (fun h1 h2 h3 => ?_) k
  refine ⟨⟨i_MR_nw h1 _, h2, i_cc trivial h3⟩, ?_⟩
  show z_new f_nw (z_mc P) (z_ms P) x (pc + 3) _ _ _ _ _ _ = _
  unfold z_new
  rw [hk]
  try dsimp only
  rw [ha, hs, decide_eq_true hl, decide_eq_true hc, decide_eq_true hm, i_M_nw]
  rfl
theorem z_newa_e {kind n : Nat} {nx : Nat} {r : List iV} {a : Int} (hn : a = (n : Int)) (h6 : n ≤ 1000000) (ha : z_all sh.length (loc.map (Option.map i_v)) (r.map i_v) = true) (hs : z_allS sh.length sh = true) (hl : sh.length < 1000) (hc : kc + 1 ≤ z_mc P) (hm : ks + n ≤ z_ms P) : z_newa f_nw (z_mc P) (z_ms P) kind nx (loc.map (Option.map i_v)) ((iI a :: r).map i_v) sh (i_M M) kc ks = some (nx, loc.map (Option.map i_v), (iP sh.length :: r).map i_v, sh ++ [(kind, n, if kind = 3 then z_none n else [])], i_M (va_up M sh.length (fun _ => 0)), kc + 1, ks + n) := by
  have e1 : (Int32.ofInt a).toNatClampNeg = n := by
    rw [iR_nat (by unfold iR; omega), hn]
    rfl
  have e2 : ¬ (Int32.ofInt a < 0) := by
    intro h
    have := (iR_lt (by unfold iR; omega) iR_0).mp (show Int32.ofInt a < Int32.ofInt 0 from h)
    omega
  show z_newa f_nw (z_mc P) (z_ms P) kind nx (loc.map (Option.map i_v)) (Value.int (Int32.ofInt a) :: r.map i_v) sh (i_M M) kc ks = _
  unfold z_newa z_i
  try dsimp only
  rw [e1, ha, hs, decide_eq_true hl, decide_eq_true hc, decide_eq_true hm, decide_eq_true h6, decide_eq_false e2, i_M_nw]
  rfl
theorem i_newi {n : Nat} {a : Int} (hE : z_find (z_cd P) pc = some (pc, .newarray .int, x, y)) (hn : a = (n : Int)) (h6 : n ≤ 1000000) (ha : z_all sh.length (loc.map (Option.map i_v)) (stk.map i_v) = true) (hs : z_allS sh.length sh = true) (hl : sh.length < 1000) (hc : kc + 1 ≤ z_mc P) (hm : ks + n ≤ z_ms P) (k : irun scr P (pc + 2) loc (iP sh.length :: stk) (sh ++ [(1, n, [])]) (va_up M sh.length (fun _ => 0)) (kc + 1) (ks + n) q) : irun scr P pc loc (iI a :: stk) sh M kc ks q := by
  refine i_step2 hE rfl (fun h1 h2 h3 => ?_) k
  obtain ⟨h4, h3⟩ := i_c2 h3
  exact ⟨⟨i_MR_nw h1 _, h2, i_cc trivial h3⟩, z_newa_e (kind := 1) hn h6 ha hs hl hc hm⟩
theorem i_newz {n : Nat} {a : Int} (hE : z_find (z_cd P) pc = some (pc, .newarray .boolean, x, y)) (hn : a = (n : Int)) (h6 : n ≤ 1000000) (ha : z_all sh.length (loc.map (Option.map i_v)) (stk.map i_v) = true) (hs : z_allS sh.length sh = true) (hl : sh.length < 1000) (hc : kc + 1 ≤ z_mc P) (hm : ks + n ≤ z_ms P) (k : irun scr P (pc + 2) loc (iP sh.length :: stk) (sh ++ [(2, n, [])]) (va_up M sh.length (fun _ => 0)) (kc + 1) (ks + n) q) : irun scr P pc loc (iI a :: stk) sh M kc ks q := by
  refine i_step2 hE rfl (fun h1 h2 h3 => ?_) k
  obtain ⟨h4, h3⟩ := i_c2 h3
  exact ⟨⟨i_MR_nw h1 _, h2, i_cc trivial h3⟩, z_newa_e (kind := 2) hn h6 ha hs hl hc hm⟩
theorem i_newr {n u : Nat} {a : Int} (hE : z_find (z_cd P) pc = some (pc, .anewarray u, x, y)) (hn : a = (n : Int)) (h6 : n ≤ 1000000) (ha : z_all sh.length (loc.map (Option.map i_v)) (stk.map i_v) = true) (hs : z_allS sh.length sh = true) (hl : sh.length < 1000) (hc : kc + 1 ≤ z_mc P) (hm : ks + n ≤ z_ms P) (k : irun scr P (pc + 3) loc (iP sh.length :: stk) (sh ++ [(3, n, z_none n)]) (va_up M sh.length (fun _ => 0)) (kc + 1) (ks + n) q) : irun scr P pc loc (iI a :: stk) sh M kc ks q := by
  refine i_step2 hE rfl (fun h1 h2 h3 => ?_) k
  obtain ⟨h4, h3⟩ := i_c2 h3
  exact ⟨⟨i_MR_nw h1 _, h2, i_cc trivial h3⟩, z_newa_e (kind := 3) hn h6 ha hs hl hc hm⟩
theorem i_oinit {n p : Nat} (hE : z_find (z_cd P) pc = some (pc, .invokespecial n, x, y)) (hx : x = 9) (hs : ((stk.map i_v).map fun v => v.category).sum ≤ 8) (k : irun scr P (pc + 3) loc stk sh M kc ks q) : irun scr P pc loc (iP p :: stk) sh M kc ks q := by
  refine i_step2 hE (by rw [hx]; rfl) (fun h1 h2 h3 => ?_) k
  obtain ⟨h4, h3⟩ := i_c2 h3
  refine ⟨⟨h1, h2, h3⟩, ?_⟩
  show (if x = 9 then z_r (Value.ref p :: stk.map i_v) _ else none) = _
  rw [if_pos hx]
  show (if ((stk.map i_v).map fun v => v.category).sum ≤ 8 then _ else none) = _
  rw [if_pos hs]
theorem i_putR {n p p2 j : Nat} {rs : List (Option Nat)} {kd : List Nat} (hE : z_find (z_cd P) pc = some (pc, .putfield n, x, y)) (hs : z_at sh p = some (0, x, rs)) (hk : z_at zCT x = some kd) (hw : z_at kd y = some (j + 2)) (hy : y < rs.length) (k : irun scr P (pc + 3) loc stk (sh.set p (0, x, rs.set y (some p2))) M kc ks q) : irun scr P pc loc (iP p2 :: iP p :: stk) sh M kc ks q := by
  refine i_step1 hE rfl (fun h1 h2 h3 => ?_) k
  obtain ⟨h4, h3⟩ := i_c2 h3
  obtain ⟨h5, h3⟩ := i_c2 h3
  refine ⟨⟨h1, h2, h3⟩, ?_⟩
  show z_putf f_st x y (pc + 3) _ _ _ _ _ _ = _
  unfold z_putf
  rw [hk]
  try dsimp only
  rw [hw]
  show z_obj sh p x _ = _
  rw [z_obj_e hs, if_pos hy]
theorem i_aast {p p2 n ci : Nat} {i : Int} {rs rs2 : List (Option Nat)} (hE : z_find (z_cd P) pc = some (pc, .aastore, x, y)) (hs : z_at sh p = some (3, n, rs)) (h2 : z_at sh p2 = some (0, ci, rs2)) (hc : z_cast ci = true) (h0 : 0 ≤ i) (hi : i < n) (hr : i.toNat < rs.length) (k : irun scr P (pc + 1) loc stk (sh.set p (3, n, rs.set i.toNat (some p2))) M kc ks q) : irun scr P pc loc (iP p2 :: iI i :: iP p :: stk) sh M kc ks q := by
  refine i_step1 hE rfl (fun h1 h2' h3 => ?_) k
  obtain ⟨h4, h3⟩ := i_c2 h3
  obtain ⟨h5, h3⟩ := i_c2 h3
  obtain ⟨h6, h3⟩ := i_c2 h3
  refine ⟨⟨h1, h2', h3⟩, ?_⟩
  show z_refs sh p _ = _
  rw [z_refs_e hs, if_pos (i_in h5 h0 hi), iR_nat h5]
  show (match z_at sh p2 with
    | some (0, ci, _) => if z_cast ci = true ∧ i.toNat < rs.length then _ else none
    | _ => none) = _
  rw [h2]
  show (if z_cast ci = true ∧ i.toNat < rs.length then _ else none) = _
  rw [if_pos ⟨hc, hr⟩]
theorem i_callA {i : Instr} {as rest : List iV} {T : Nat × zP} {q1 : Option Int × List zS × iM} (hE : z_find (z_cd P) pc = some (pc, i, x, y)) (hk : z_kd i x = 2) (h1 : irun none T.2 0 (i_ent as (z_mL T.2)) [] sh M 0 0 q1) (hst : stk = as.reverse ++ rest) (hT : z_tgt (pc, i, x, y) (stk.map i_v) sh = some T) (hna : as.length = z_na T.2)
    (hc : z_cOk P T.2 (stk.map i_v) kc ks = true) (hl : sh.length < q1.2.1.length) (hal : z_all sh.length (loc.map (Option.map i_v)) (rest.map i_v) = true)
    (k : irun scr P (pc + z_ln i) loc (q1.1.toList.map iI ++ rest) q1.2.1 q1.2.2 (kc + z_mc T.2) (ks + z_ms T.2) q) : irun scr P pc loc stk sh M kc ks q := by
  intro a1 a2 a3
  have a4 : ∀ v ∈ as, i_ok v := fun v hv => a3 v (by rw [hst]; exact List.mem_append_left _ (List.mem_reverse.mpr hv))
  have a5 : ∀ v ∈ rest, i_ok v := fun v hv => a3 v (by rw [hst]; exact List.mem_append_right _ hv)
  obtain ⟨b1, b2, b3⟩ := h1 a1 (i_ent_ok a4 _) (fun v hv => by cases hv)
  obtain ⟨c1, c2, c3⟩ := k b1 a2 (by
    intro v hv
    rcases List.mem_append.mp hv with hv | hv
    · obtain ⟨a, ha, rfl⟩ := List.mem_map.mp hv
      exact b2 a (by simpa using ha)
    · exact a5 v hv)
  have e2 : (stk.map i_v).drop (z_na T.2) = rest.map i_v := by
    rw [← hna, hst, List.map_append, List.drop_left' (by simp)]
  refine ⟨c1, c2, z_run_call hE hk hT hc (q1 := (q1.1.map (fun a => Value.int (Int32.ofInt a)), q1.2.1, i_M q1.2.2)) ?_ (Or.inr ⟨hl, by rw [e2]; exact hal⟩) ?_⟩
  · have e1 : ((stk.map i_v).take (z_na T.2)).reverse = as.map i_v := by
      rw [← hna, hst, List.map_append, List.take_left' (by simp), List.map_reverse, List.reverse_reverse]
    rw [e1, i_ent_map]
    exact b3
  · rw [e2]
    have e3 : (q1.1.map (fun a => Value.int (Int32.ofInt a))).toList = (q1.1.toList.map iI).map i_v := by
      cases q1.1 <;> rfl
    show z_run f_gt f_st f_nw f_cp scr P (pc + z_ln i) _ ((q1.1.map (fun a => Value.int (Int32.ofInt a))).toList ++ rest.map i_v) _ _ (kc + z_mc T.2) (ks + z_ms T.2) _
    rw [e3, ← List.map_append]
    exact c3
end IAlloc
