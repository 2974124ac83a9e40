theorem eN_B {S : Nat → Int} {n c : Nat} (hS : ∀ j, j < n → 0 ≤ S j ∧ S j < 256) (h96 : n ≤ 96) (hc : c < 4) (h3 : ¬ (c = 3 ∧ n = 0)) : B01 (eN S n c) := by
  obtain ⟨M', _, _, _, h, _⟩ := d_packed (b := false) (M := fun x k => if x = 48 then S k else if x = 40 ∧ k = 14 then (n : Int) else 0) (S := S) (n := n) (c := c) (w := 0) rfl h96 hc h3 (fun j hj => ⟨rfl, hS j hj⟩) (Or.inl rfl)
  exact h.2.2
/-- the reference's runs of writings -/
def srm (D : Nat → Nat → Int) (first : Nat) (f Q : Nat → Int) : Nat → Int × (Nat → Int) × (Nat → Int)
  | 0 => (1, f, Q)
  | i + 1 => if (srm D first f Q i).1 = 1 then st2m (srm D first f Q i).2.1 (srm D first f Q i).2.2 (first + i) (D i) else srm D first f Q i
theorem st2_c {f O d e : Nat → Int} {s : Nat} (h : ∀ k, k < 11 → d k = e k) : st2 f O s d = st2 f O s e := by
  unfold st2
  rw [wS_c h]
theorem st2m_c {f Q d e : Nat → Int} {s : Nat} (h : ∀ k, k < 11 → d k = e k) : st2m f Q s d = st2m f Q s e := by
  unfold st2m
  rw [wS_c h]
theorem st_rel {f O Q d : Nat → Int} {s : Nat} (h : Rl O Q) : (st2 f O s d).1 = (st2m f Q s d).1 ∧ (st2 f O s d).2.1 = (st2m f Q s d).2.1 ∧ Rl (st2 f O s d).2.2 (st2m f Q s d).2.2 := by
  have h0 := Rl_0 h
  have h1 := Rl_1 h
  have h10 := Rl_0 h1
  have h2 := Rl_1 h1
  have e3 : O1 O 3 = lw (O 3) := rfl
  unfold st2 st2m
  by_cases c1 : O 3 = 0
  · rw [if_pos c1, if_pos (h0.1 c1)]
    exact ⟨rfl, rfl, h1⟩
  · rw [if_neg c1, if_neg (fun q => c1 (h0.2 q))]
    by_cases c2 : lw (O 3) = 0
    · rw [if_pos c2, if_pos (h10.1 c2)]
      exact ⟨rfl, rfl, h2⟩
    · rw [if_neg c2, if_neg (fun q => c2 (h10.2 q))]
      exact ⟨rfl, rfl, h2⟩
theorem sr_rel {D E : Nat → Nat → Int} {first : Nat} {f O Q : Nat → Int} {n : Nat} (h : Rl O Q) (hD : ∀ i k, i < n → k < 11 → D i k = E i k) : ∀ i, i ≤ n → (sr D first f O i).1 = (srm E first f Q i).1 ∧ (sr D first f O i).2.1 = (srm E first f Q i).2.1 ∧ Rl (sr D first f O i).2.2 (srm E first f Q i).2.2 := by
  intro i
  induction i with
  | zero => intro _; exact ⟨rfl, rfl, h⟩
  | succ i ih =>
    intro hi
    obtain ⟨h1, h2, h3⟩ := ih (by omega)
    unfold sr srm
    rw [← h1]
    by_cases c : (sr D first f O i).1 = 1
    · rw [if_pos c, if_pos c, ← h2, st2m_c (fun k hk => (hD i k (by omega) hk).symm)]
      exact st_rel h3
    · rw [if_neg c, if_neg c]
      exact ⟨h1, h2, h3⟩
theorem st2_5 {f O d : Nat → Int} {s : Nat} (h : (st2 f O s d).1 = 1) : (st2 f O s d).2.2 5 = O 5 + 2 := by
  unfold st2 at h ⊢
  by_cases c1 : O 3 = 0
  · rw [if_pos c1] at h
    cases h
  · rw [if_neg c1] at h ⊢
    by_cases c2 : lw (O 3) = 0
    · rw [if_pos c2] at h
      cases h
    · rw [if_neg c2]
      have e1 : O1 O 5 = O 5 + 1 := by unfold O1; simp [c1]
      have e2 : O1 (O1 O) 5 = O1 O 5 + 1 := by
        have c2' : ¬ O1 O 3 = 0 := c2
        generalize O1 O = P at *
        unfold O1
        simp [c2']
      show O1 (O1 O) 5 = _
      omega
theorem sr_5 {D : Nat → Nat → Int} {first : Nat} {f O : Nat → Int} : ∀ i, (sr D first f O i).1 = 1 → (sr D first f O i).2.2 5 = O 5 + 2 * i := by
  intro i
  induction i with
  | zero => intro _; show O 5 = O 5 + 2 * ((0 : Nat) : Int); omega
  | succ i ih =>
    intro h
    unfold sr at h ⊢
    by_cases c : (sr D first f O i).1 = 1
    · rw [if_pos c] at h ⊢
      rw [st2_5 h, ih c]
      omega
    · rw [if_neg c] at h
      exact absurd h c
/-- block, index and header in turn -/
def wr (D1 D2 D3 : Nat → Nat → Int) (f1 f2 f3 n1 n2 : Nat) (f O : Nat → Int) : Int × (Nat → Int) × (Nat → Int) :=
  if (sr D1 f1 f O n1).1 = 1 then
    if (sr D2 f2 (sr D1 f1 f O n1).2.1 (sr D1 f1 f O n1).2.2 n2).1 = 1 then sr D3 f3 (sr D2 f2 (sr D1 f1 f O n1).2.1 (sr D1 f1 f O n1).2.2 n2).2.1 (sr D2 f2 (sr D1 f1 f O n1).2.1 (sr D1 f1 f O n1).2.2 n2).2.2 1
    else sr D2 f2 (sr D1 f1 f O n1).2.1 (sr D1 f1 f O n1).2.2 n2
  else sr D1 f1 f O n1
set_option maxRecDepth 100000 in
theorem c_layE {b : Bool} {M : iM} {o c : Nat} (ho : o = 36 ∨ o = 38) (hc : M o 1 = (c : Int)) (h10 : c ≤ 10) : ∃ M', irun none zp_65 0 (i_ent [iP o, iP 34] 2) [] (SH b) M 0 0 (none, SH b, M') ∧ Fr [34] M M' ∧ M' 34 0 = (c : Int) ∧ ∀ j, j < 7 * c → M' 34 (1 + j) = M (o + 1) j := by
  refine ⟨i_cp (i_st M 34 0 (c : Int)) (o + 1) 0 34 1 (7 * c), ?_, Fr_cp (Fr_st (Fr_r _ _) (by decide)) (by decide), ?_, fun j hj => ?_⟩
  · rcases ho with rfl | rfl
    · refine i_aload_n rfl rfl ?_
      refine i_iconst (n := 0) rfl (by unfold iR; omega) ?_
      refine i_aload_n rfl rfl ?_
      refine i_getf rfl rfl rfl rfl (by decide) ?_
      -- at 6
      rw [hc]
      refine i_iast rfl rfl (by first | omega | assumption) (by first | omega | assumption) ?_
      refine i_aload_n rfl rfl ?_
      refine i_getr rfl rfl rfl rfl (by decide) rfl ?_
      refine i_iconst (n := 0) rfl (by unfold iR; omega) ?_
      refine i_aload_n rfl rfl ?_
      refine i_iconst (n := 1) rfl (by unfold iR; omega) ?_
      refine i_aload_n rfl rfl ?_
      refine i_getf rfl rfl rfl rfl (by decide) ?_
      -- at 18
      show irun none zp_65 18 _ (iI (M 36 1) :: _) _ _ 0 0 _
      rw [hc]
      refine i_bipush (n := 7) rfl (by unfold iR; omega) (by decide) ?_
      refine i_imul rfl (by unfold iR; omega) ?_
      -- at 21
      refine i_copy (n0 := 70) (n1 := 528) rfl rfl rfl rfl (by omega) (by omega) (by omega) (by omega) (by omega) (Nat.le_of_ble_eq_true rfl) ?_
      rw [show ((c : Int) * 7).toNat = 7 * c by omega]
      -- at 24
      exact i_vreturn rfl rfl
    · refine i_aload_n rfl rfl ?_
      refine i_iconst (n := 0) rfl (by unfold iR; omega) ?_
      refine i_aload_n rfl rfl ?_
      refine i_getf rfl rfl rfl rfl (by decide) ?_
      -- at 6
      rw [hc]
      refine i_iast rfl rfl (by first | omega | assumption) (by first | omega | assumption) ?_
      refine i_aload_n rfl rfl ?_
      refine i_getr rfl rfl rfl rfl (by decide) rfl ?_
      refine i_iconst (n := 0) rfl (by unfold iR; omega) ?_
      refine i_aload_n rfl rfl ?_
      refine i_iconst (n := 1) rfl (by unfold iR; omega) ?_
      refine i_aload_n rfl rfl ?_
      refine i_getf rfl rfl rfl rfl (by decide) ?_
      -- at 18
      show irun none zp_65 18 _ (iI (M 38 1) :: _) _ _ 0 0 _
      rw [hc]
      refine i_bipush (n := 7) rfl (by unfold iR; omega) (by decide) ?_
      refine i_imul rfl (by unfold iR; omega) ?_
      -- at 21
      refine i_copy (n0 := 70) (n1 := 528) rfl rfl rfl rfl (by omega) (by omega) (by omega) (by omega) (by omega) (Nat.le_of_ble_eq_true rfl) ?_
      rw [show ((c : Int) * 7).toNat = 7 * c by omega]
      -- at 24
      exact i_vreturn rfl rfl
  · unfold i_cp
    rw [up_s]
    unfold va_cpy i_st
    rw [if_neg (by omega), up_s, up_s]
  · have no : o + 1 ≠ 34 := by omega
    unfold i_cp
    rw [up_s]
    unfold va_cpy i_st
    rw [if_pos (by omega), up_n no, show 0 + (1 + j - 1) = j by omega]
set_option maxRecDepth 100000 in
theorem c_layH {b : Bool} {M : iM} {o : Nat} (ho : o = 36 ∨ o = 38) : ∃ M', irun none zp_64 0 (i_ent [iP o, iP 34] 2) [] (SH b) M 0 0 (none, SH b, M') ∧ Fr [34] M M' ∧ M' 34 0 = 83 ∧ M' 34 1 = 65 ∧ M' 34 2 = M o 2 ∧ M' 34 3 = M o 3 ∧ M' 34 4 = M o 4 := by
  refine ⟨i_st (i_st (i_st (i_st (i_st M 34 0 83) 34 1 65) 34 2 (M o 2)) 34 3 (M o 3)) 34 4 (M o 4), ?_, Fr_st (Fr_st (Fr_st (Fr_st (Fr_st (Fr_r _ _) (by decide)) (by decide)) (by decide)) (by decide)) (by decide), rfl, rfl, rfl, rfl, rfl⟩
  rcases ho with rfl | rfl
  · refine i_aload_n rfl rfl ?_
    refine i_iconst (n := 0) rfl (by unfold iR; omega) ?_
    refine i_bipush (n := 83) rfl (by unfold iR; omega) (by decide) ?_
    refine i_iast rfl rfl (by first | omega | assumption) (by first | omega | assumption) ?_
    refine i_aload_n rfl rfl ?_
    refine i_iconst (n := 1) rfl (by unfold iR; omega) ?_
    refine i_bipush (n := 65) rfl (by unfold iR; omega) (by decide) ?_
    refine i_iast rfl rfl (by first | omega | assumption) (by first | omega | assumption) ?_
    refine i_aload_n rfl rfl ?_
    refine i_iconst (n := 2) rfl (by unfold iR; omega) ?_
    refine i_aload_n rfl rfl ?_
    refine i_getf rfl rfl rfl rfl (by decide) ?_
    refine i_iast rfl rfl (by first | omega | assumption) (by first | omega | assumption) ?_
    refine i_aload_n rfl rfl ?_
    refine i_iconst (n := 3) rfl (by unfold iR; omega) ?_
    refine i_aload_n rfl rfl ?_
    refine i_getf rfl rfl rfl rfl (by decide) ?_
    refine i_iast rfl rfl (by first | omega | assumption) (by first | omega | assumption) ?_
    refine i_aload_n rfl rfl ?_
    refine i_iconst (n := 4) rfl (by unfold iR; omega) ?_
    refine i_aload_n rfl rfl ?_
    refine i_getf rfl rfl rfl rfl (by decide) ?_
    refine i_iast rfl rfl (by first | omega | assumption) (by first | omega | assumption) ?_
    -- at 31
    exact i_vreturn rfl rfl
  · refine i_aload_n rfl rfl ?_
    refine i_iconst (n := 0) rfl (by unfold iR; omega) ?_
    refine i_bipush (n := 83) rfl (by unfold iR; omega) (by decide) ?_
    refine i_iast rfl rfl (by first | omega | assumption) (by first | omega | assumption) ?_
    refine i_aload_n rfl rfl ?_
    refine i_iconst (n := 1) rfl (by unfold iR; omega) ?_
    refine i_bipush (n := 65) rfl (by unfold iR; omega) (by decide) ?_
    refine i_iast rfl rfl (by first | omega | assumption) (by first | omega | assumption) ?_
    refine i_aload_n rfl rfl ?_
    refine i_iconst (n := 2) rfl (by unfold iR; omega) ?_
    refine i_aload_n rfl rfl ?_
    refine i_getf rfl rfl rfl rfl (by decide) ?_
    refine i_iast rfl rfl (by first | omega | assumption) (by first | omega | assumption) ?_
    refine i_aload_n rfl rfl ?_
    refine i_iconst (n := 3) rfl (by unfold iR; omega) ?_
    refine i_aload_n rfl rfl ?_
    refine i_getf rfl rfl rfl rfl (by decide) ?_
    refine i_iast rfl rfl (by first | omega | assumption) (by first | omega | assumption) ?_
    refine i_aload_n rfl rfl ?_
    refine i_iconst (n := 4) rfl (by unfold iR; omega) ?_
    refine i_aload_n rfl rfl ?_
    refine i_getf rfl rfl rfl rfl (by decide) ?_
    refine i_iast rfl rfl (by first | omega | assumption) (by first | omega | assumption) ?_
    -- at 31
    exact i_vreturn rfl rfl
