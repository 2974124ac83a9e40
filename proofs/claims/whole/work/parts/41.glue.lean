/-- the checks of a method's rows that are computed -/
def z_dec (cc : ByteArray) (E : zE) : Bool := match E.2.1 with
  | .tableswitch d lo hi o => (match decode cc E.1 with
    | .ok q => decide (q.1 = .tableswitch d lo hi o)
    | .error _ => false)
  | i => decide (decode cc E.1 = .ok (i, z_ln i))
noncomputable def z_lk (P : zP) (E : zE) : Bool := match E.2.1 with
  | .goto o => decide ((E.1 : Int) + o = E.2.2.1)
  | .if_icmp _ o => decide ((E.1 : Int) + o = E.2.2.1)
  | .ifCond _ o => decide ((E.1 : Int) + o = E.2.2.1)
  | .getfield idx => decide ((z_ci P, idx, E.2.2.1, E.2.2.2) ∈ zFL)
  | .putfield idx => decide ((z_ci P, idx, E.2.2.1, E.2.2.2) ∈ zFL) && (match z_at zCT E.2.2.1 with
    | some kd => !decide (kd.getD E.2.2.2 9 = 3) || (z_ini P && decide (E.2.2.1 = z_ci P) && decide ((z_ci P, idx, E.2.2.1, E.2.2.2) ∈ zFS))
    | none => true)
  | .ldc2_w idx => decide ((z_ci P, idx, E.2.2.1) ∈ zLL)
  | .new idx => decide ((z_ci P, idx, E.2.2.1) ∈ zNL)
  | .newarray a => decide (a = .int) || decide (a = .boolean)
  | .anewarray idx => decide ((z_ci P, idx) ∈ zAL)
  | .invokevirtual idx => decide (E.2.2.1 = 1) && decide ((z_ci P, idx, E.2.2.2) ∈ zVL)
  | .invokeinterface idx _ => decide (E.2.2.1 = 2) && decide ((z_ci P, idx, E.2.2.2) ∈ zJL)
  | .invokespecial idx => if E.2.2.1 = 9 then decide ((z_ci P, idx) ∈ zOL) else decide (E.2.2.1 = 1) && decide ((z_ci P, idx, E.2.2.2) ∈ zIL)
  | .invokestatic idx => if E.2.2.1 = 3 then decide ((z_ci P, idx) ∈ zK3) else if E.2.2.1 = 4 then decide ((z_ci P, idx) ∈ zK4) else if E.2.2.1 = 5 then decide ((z_ci P, idx) ∈ zK5) else decide (E.2.2.1 = 0) && decide ((z_ci P, idx, E.2.2.2) ∈ zSL)
  | _ => true
theorem z_arrI : Cond.arrayClass (newarray.typeOf .int) ∈ zWS := z_t1 (List.mem_of_getElem? (i := 60) rfl) rfl
theorem z_arrZ : Cond.arrayClass (newarray.typeOf .boolean) ∈ zWS := z_t1 (List.mem_of_getElem? (i := 102) rfl) rfl
theorem z_lk_ok {P : zP} {E : zE} (hcn : (z_nm P).cls = z_cn (z_ci P)) (hd : z_dec (z_by P) E = true) (h : z_lk P E = true) : z_okE (z_nm P).cls (z_ci P) (z_ini P) (z_by P) E ∧ z_okC (z_nm P).cls E := by
  rw [hcn]
  obtain ⟨pc, i, x, y⟩ := E
  cases i
  case tableswitch d lo hi o =>
    refine ⟨?_, trivial⟩
    show ∃ k, decode (z_by P) pc = .ok (.tableswitch d lo hi o, k)
    unfold z_dec at hd
    dsimp only at hd
    split at hd
    · rename_i q hq
      obtain ⟨q1, q2⟩ := q
      have := of_decide_eq_true hd
      dsimp only at this
      subst this
      exact ⟨q2, hq⟩
    · cases hd
  case goto o => exact ⟨⟨of_decide_eq_true hd, of_decide_eq_true h⟩, trivial⟩
  case if_icmp c o => exact ⟨⟨of_decide_eq_true hd, of_decide_eq_true h⟩, trivial⟩
  case ifCond c o => exact ⟨⟨of_decide_eq_true hd, of_decide_eq_true h⟩, trivial⟩
  case getfield idx => exact ⟨⟨of_decide_eq_true hd, zFL_ok _ (of_decide_eq_true h)⟩, trivial⟩
  case putfield idx =>
    unfold z_lk at h
    dsimp only at h
    rw [Bool.and_eq_true] at h
    refine ⟨⟨of_decide_eq_true hd, zFL_ok _ (of_decide_eq_true h.1), fun kd hk hq => ?_⟩, trivial⟩
    have h2 := h.2
    dsimp only at hk hq
    rw [hk] at h2
    simp only [hq, decide_true, Bool.not_true, Bool.false_or, Bool.and_eq_true, decide_eq_true_eq] at h2
    exact ⟨h2.1.1, h2.1.2, zFS_ok _ h2.2⟩
  case ldc2_w idx => exact ⟨⟨of_decide_eq_true hd, zLL_ok _ (of_decide_eq_true h)⟩, trivial⟩
  case new idx => exact ⟨⟨of_decide_eq_true hd, zNL_ok _ (of_decide_eq_true h)⟩, trivial⟩
  case newarray a =>
    unfold z_lk at h
    dsimp only at h
    rw [Bool.or_eq_true] at h
    refine ⟨⟨of_decide_eq_true hd, ?_⟩, trivial⟩
    rcases h with h | h
    · have := of_decide_eq_true h
      subst this
      exact z_arrI
    · have := of_decide_eq_true h
      subst this
      exact z_arrZ
  case anewarray idx => exact ⟨⟨of_decide_eq_true hd, zAL_ok _ (of_decide_eq_true h)⟩, trivial⟩
  case invokevirtual idx =>
    unfold z_lk at h
    dsimp only at h
    rw [Bool.and_eq_true] at h
    exact ⟨⟨of_decide_eq_true hd, trivial⟩, of_decide_eq_true h.1, zVL_ok _ (of_decide_eq_true h.2)⟩
  case invokeinterface idx k =>
    unfold z_lk at h
    dsimp only at h
    rw [Bool.and_eq_true] at h
    exact ⟨⟨of_decide_eq_true hd, trivial⟩, of_decide_eq_true h.1, zJL_ok _ (of_decide_eq_true h.2)⟩
  case invokespecial idx =>
    unfold z_lk at h
    dsimp only at h
    by_cases h9 : x = 9
    · rw [if_pos h9] at h
      exact ⟨⟨of_decide_eq_true hd, fun _ => zOL_ok _ (of_decide_eq_true h)⟩, fun h3 => absurd h3 (by dsimp only; omega)⟩
    · rw [if_neg h9, Bool.and_eq_true] at h
      exact ⟨⟨of_decide_eq_true hd, fun q => absurd q h9⟩, fun _ => ⟨of_decide_eq_true h.1, zIL_ok _ (of_decide_eq_true h.2)⟩⟩
  case invokestatic idx =>
    unfold z_lk at h
    dsimp only at h
    by_cases h3 : x = 3
    · rw [if_pos h3] at h
      subst h3
      exact ⟨⟨of_decide_eq_true hd, fun _ => zK3_ok _ (of_decide_eq_true h), fun q => absurd q (by dsimp only; decide), fun q => absurd q (by dsimp only; decide)⟩, fun q => absurd q (by dsimp only; decide)⟩
    · rw [if_neg h3] at h
      by_cases h4 : x = 4
      · rw [if_pos h4] at h
        subst h4
        exact ⟨⟨of_decide_eq_true hd, fun q => absurd q (by dsimp only; decide), fun _ => zK4_ok _ (of_decide_eq_true h), fun q => absurd q (by dsimp only; decide)⟩, fun q => absurd q (by dsimp only; decide)⟩
      · rw [if_neg h4] at h
        by_cases h5 : x = 5
        · rw [if_pos h5] at h
          subst h5
          exact ⟨⟨of_decide_eq_true hd, fun q => absurd q (by dsimp only; decide), fun q => absurd q (by dsimp only; decide), fun _ => zK5_ok _ (of_decide_eq_true h)⟩, fun q => absurd q (by dsimp only; decide)⟩
        · rw [if_neg h5, Bool.and_eq_true] at h
          exact ⟨⟨of_decide_eq_true hd, fun q => absurd q h3, fun q => absurd q h4, fun q => absurd q h5⟩, fun _ => ⟨of_decide_eq_true h.1, zSL_ok _ (of_decide_eq_true h.2)⟩⟩
  all_goals exact ⟨⟨of_decide_eq_true hd, trivial⟩, trivial⟩
theorem z_bodyOf {P : zP} (h1 : 1 ≤ z_fb P ∧ 32 ≤ z_lb P) (hcn : (z_nm P).cls = z_cn (z_ci P)) (h : (z_cd P).all (fun E => z_dec (z_by P) E && z_lk P E) = true) : z_body P := by
  refine ⟨h1, fun E hE => ?_⟩
  have := List.all_eq_true.mp h E hE
  rw [Bool.and_eq_true] at this
  exact z_lk_ok hcn this.1 this.2
theorem z_methOf {P : zP} (h1 : plainName (z_nm P).cls = true) (h2 : Cond.code (z_nm P) (z_by P) (z_mL P) (z_rt P) ∈ zWS) (h3 : (z_nm P).cls ≠ "java/lang/invoke/MethodHandle" ∧ (z_nm P).cls ≠ "java/lang/invoke/VarHandle") (h4 : z_body P) : z_meth P := ⟨h1, h2, h3, h4⟩
