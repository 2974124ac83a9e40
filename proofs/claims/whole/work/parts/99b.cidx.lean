set_option maxRecDepth 100000 in
theorem c_iapp {b : Bool} {M : iM} {p q c k : Nat} (hpq : (p = 36 ∧ q = 38) ∨ (p = 38 ∧ q = 36)) (hc : M p 1 = (c : Int)) (h10 : c < 10) (hk : k < 10) : ∃ M', irun none zp_60 0 (i_ent [iP p, iP q, iI (k : Int)] 3) [] (SH b) M 0 0 (none, SH b, M') ∧ Fr [p, p + 1] M M' ∧ M' p 1 = ((c + 1 : Nat) : Int) ∧ (∀ u, u ≠ 1 → M' p u = M p u) ∧ ∀ j, j < 7 * (c + 1) → M' (p + 1) j = if j < 7 * c then M (p + 1) j else M (q + 1) (7 * k + (j - 7 * c)) := by
  refine ⟨i_st (i_cp M (q + 1) (7 * k) (p + 1) (7 * c) 7) p 1 ((c : Int) + 1), ?_, ?_, ?_, ?_, ?_⟩
  · rcases hpq with ⟨rfl, rfl⟩ | ⟨rfl, rfl⟩
    · refine i_aload_n rfl rfl ?_
      refine i_getf rfl rfl rfl rfl (by decide) ?_
      refine i_bipush (n := 10) rfl (by unfold iR; omega) (by decide) ?_
      refine i_icmp_ge_f rfl (by first | omega | assumption) ?_
      refine i_aload_n rfl rfl ?_
      refine i_getr rfl rfl rfl rfl (by decide) rfl ?_
      refine i_iload_n rfl rfl ?_
      refine i_bipush (n := 7) rfl (by unfold iR; omega) (by decide) ?_
      refine i_imul rfl (by unfold iR; omega) ?_
      refine i_aload_n rfl rfl ?_
      refine i_getr rfl rfl rfl rfl (by decide) rfl ?_
      refine i_aload_n rfl rfl ?_
      refine i_getf rfl rfl rfl rfl (by decide) ?_
      refine i_bipush (n := 7) rfl (by unfold iR; omega) (by decide) ?_
      refine i_imul rfl (by unfold iR; omega) ?_
      refine i_bipush (n := 7) rfl (by unfold iR; omega) (by decide) ?_
      -- at 30
      refine i_copy (n0 := 70) (n1 := 70) rfl rfl rfl rfl (by omega) (by omega) (by omega) (by omega) (by omega) (Nat.le_of_ble_eq_true rfl) ?_
      rw [show ((k : Int) * 7).toNat = 7 * k by omega, show (M 36 1 * 7).toNat = 7 * c by omega]
      refine i_aload_n rfl rfl ?_
      first | refine i_dup rfl ?_ | refine i_dupr rfl ?_
      refine i_getf rfl rfl rfl rfl (by decide) ?_
      -- at 38
      show irun none zp_60 38 _ (iI (M 36 1) :: _) _ _ 0 0 _
      rw [hc]
      refine i_iconst (n := 1) rfl (by unfold iR; omega) ?_
      refine i_iadd rfl (by unfold iR; omega) ?_
      refine i_puti rfl rfl rfl rfl ?_
      -- at 43
      exact i_vreturn rfl rfl
    · refine i_aload_n rfl rfl ?_
      refine i_getf rfl rfl rfl rfl (by decide) ?_
      refine i_bipush (n := 10) rfl (by unfold iR; omega) (by decide) ?_
      refine i_icmp_ge_f rfl (by first | omega | assumption) ?_
      refine i_aload_n rfl rfl ?_
      refine i_getr rfl rfl rfl rfl (by decide) rfl ?_
      refine i_iload_n rfl rfl ?_
      refine i_bipush (n := 7) rfl (by unfold iR; omega) (by decide) ?_
      refine i_imul rfl (by unfold iR; omega) ?_
      refine i_aload_n rfl rfl ?_
      refine i_getr rfl rfl rfl rfl (by decide) rfl ?_
      refine i_aload_n rfl rfl ?_
      refine i_getf rfl rfl rfl rfl (by decide) ?_
      refine i_bipush (n := 7) rfl (by unfold iR; omega) (by decide) ?_
      refine i_imul rfl (by unfold iR; omega) ?_
      refine i_bipush (n := 7) rfl (by unfold iR; omega) (by decide) ?_
      -- at 30
      refine i_copy (n0 := 70) (n1 := 70) rfl rfl rfl rfl (by omega) (by omega) (by omega) (by omega) (by omega) (Nat.le_of_ble_eq_true rfl) ?_
      rw [show ((k : Int) * 7).toNat = 7 * k by omega, show (M 38 1 * 7).toNat = 7 * c by omega]
      refine i_aload_n rfl rfl ?_
      first | refine i_dup rfl ?_ | refine i_dupr rfl ?_
      refine i_getf rfl rfl rfl rfl (by decide) ?_
      -- at 38
      show irun none zp_60 38 _ (iI (M 38 1) :: _) _ _ 0 0 _
      rw [hc]
      refine i_iconst (n := 1) rfl (by unfold iR; omega) ?_
      refine i_iadd rfl (by unfold iR; omega) ?_
      refine i_puti rfl rfl rfl rfl ?_
      -- at 43
      exact i_vreturn rfl rfl
  · exact Fr_st (Fr_cp (Fr_r _ _) (by simp)) (by simp)
  · unfold i_st
    rw [up_s, up_s]
    omega
  · intro u hu
    unfold i_st i_cp
    rw [up_s, up_n hu, up_n (by omega)]
  · intro j hj
    unfold i_st i_cp
    rw [up_n (by omega), up_s]
    unfold va_cpy
    by_cases e : j < 7 * c
    · rw [if_neg (by omega), if_pos e]
    · rw [if_pos (by omega), if_neg e]
set_option maxRecDepth 100000 in
theorem c_insert {b : Bool} {M : iM} {p c : Nat} (hp : p = 36 ∨ p = 38) (hc : M p 1 = (c : Int)) (h10 : c < 10) : ∃ M', irun none zp_61 0 (i_ent [iP p, iP 33] 4) [] (SH b) M 0 0 (none, SH b, M') ∧ Fr [p, p + 1] M M' ∧ M' p 1 = ((c + 1 : Nat) : Int) ∧ (∀ u, u ≠ 1 → M' p u = M p u) ∧ ∀ j, j < 7 * (c + 1) → M' (p + 1) j = insW (M (p + 1)) (ipos (M (p + 1)) (M 33 0) (M 33 1) c) (M 33) j := by
  have hi := (ipos_ok (W := M (p + 1)) (a := M 33 0) (v := M 33 1) c).1
  generalize ei : ipos (M (p + 1)) (M 33 0) (M 33 1) c = i at hi ⊢
  have loop : ∀ (o : Option Int × List zS × iM), irun none zp_61 41 [some (iP p), some (iP 33), some (iI (i : Int)), none] [] (SH b) M 0 0 o → ∀ k : Nat, k ≤ c → ipos (M (p + 1)) (M 33 0) (M 33 1) k = i → irun none zp_61 15 [some (iP p), some (iP 33), some (iI (k : Int)), none] [] (SH b) M 0 0 o := by
    intro o ho k
    induction k with
    | zero =>
      intro _ e
      have e : i = 0 := e.symm
      subst e
      rcases hp with rfl | rfl
      · refine i_iload_n rfl rfl ?_
        refine i_if_le_t rfl (by first | omega | assumption) ?_
        -- at 41
        exact ho
      · refine i_iload_n rfl rfl ?_
        refine i_if_le_t rfl (by first | omega | assumption) ?_
        -- at 41
        exact ho
    | succ k ih =>
      intro hk e
      have hr := c_rises (b := b) (M := M) (k := k) (a := M 33 0) (v := M 33 1) hp (by omega)
      have e : (if M (p + 1) (7 * k) < M 33 0 ∨ (M (p + 1) (7 * k) = M 33 0 ∧ M (p + 1) (7 * k + 1) < M 33 1) then k + 1 else ipos (M (p + 1)) (M 33 0) (M 33 1) k) = i := e
      by_cases q : M (p + 1) (7 * k) < M 33 0 ∨ (M (p + 1) (7 * k) = M 33 0 ∧ M (p + 1) (7 * k + 1) < M 33 1)
      · rw [if_pos q] at e
        rw [bz_t (show ls _ _ _ _ from q)] at hr
        rw [← e] at ho
        rcases hp with rfl | rfl
        · refine i_iload_n rfl rfl ?_
          refine i_if_le_f rfl (by first | omega | assumption) ?_
          refine i_aload_n rfl rfl ?_
          refine i_iload_n rfl rfl ?_
          refine i_iconst (n := 1) rfl (by unfold iR; omega) ?_
          refine i_isub rfl (by unfold iR; omega) ?_
          -- at 23
          rw [show ((k + 1 : Nat) : Int) - 1 = (k : Int) by omega]
          refine i_aload_n rfl rfl ?_
          refine i_iconst (n := 0) rfl (by unfold iR; omega) ?_
          refine i_iald rfl rfl (by first | omega | assumption) (by first | omega | assumption) (by decide) ?_
          refine i_aload_n rfl rfl ?_
          refine i_iconst (n := 1) rfl (by unfold iR; omega) ?_
          refine i_iald rfl rfl (by first | omega | assumption) (by first | omega | assumption) (by decide) ?_
          -- at 29
          refine i_call (T := (62, zp_62)) rfl rfl (hr) rfl rfl rfl rfl rfl rfl rfl ?_
          try dsimp only
          show irun none zp_61 32 _ (iI ((1 : Int)) :: _) _ _ 0 0 _
          refine i_if_ne_t rfl (by first | omega | assumption) ?_
          -- at 41
          exact ho
        · refine i_iload_n rfl rfl ?_
          refine i_if_le_f rfl (by first | omega | assumption) ?_
          refine i_aload_n rfl rfl ?_
          refine i_iload_n rfl rfl ?_
          refine i_iconst (n := 1) rfl (by unfold iR; omega) ?_
          refine i_isub rfl (by unfold iR; omega) ?_
          -- at 23
          rw [show ((k + 1 : Nat) : Int) - 1 = (k : Int) by omega]
          refine i_aload_n rfl rfl ?_
          refine i_iconst (n := 0) rfl (by unfold iR; omega) ?_
          refine i_iald rfl rfl (by first | omega | assumption) (by first | omega | assumption) (by decide) ?_
          refine i_aload_n rfl rfl ?_
          refine i_iconst (n := 1) rfl (by unfold iR; omega) ?_
          refine i_iald rfl rfl (by first | omega | assumption) (by first | omega | assumption) (by decide) ?_
          -- at 29
          refine i_call (T := (62, zp_62)) rfl rfl (hr) rfl rfl rfl rfl rfl rfl rfl ?_
          try dsimp only
          show irun none zp_61 32 _ (iI ((1 : Int)) :: _) _ _ 0 0 _
          refine i_if_ne_t rfl (by first | omega | assumption) ?_
          -- at 41
          exact ho
      · rw [if_neg q] at e
        rw [bz_f (show ¬ ls _ _ _ _ from q)] at hr
        have g := ih (by omega) e
        rw [show (k : Int) = ((k + 1 : Nat) : Int) + -1 by omega] at g
        rcases hp with rfl | rfl
        · refine i_iload_n rfl rfl ?_
          refine i_if_le_f rfl (by first | omega | assumption) ?_
          refine i_aload_n rfl rfl ?_
          refine i_iload_n rfl rfl ?_
          refine i_iconst (n := 1) rfl (by unfold iR; omega) ?_
          refine i_isub rfl (by unfold iR; omega) ?_
          -- at 23
          rw [show ((k + 1 : Nat) : Int) - 1 = (k : Int) by omega]
          refine i_aload_n rfl rfl ?_
          refine i_iconst (n := 0) rfl (by unfold iR; omega) ?_
          refine i_iald rfl rfl (by first | omega | assumption) (by first | omega | assumption) (by decide) ?_
          refine i_aload_n rfl rfl ?_
          refine i_iconst (n := 1) rfl (by unfold iR; omega) ?_
          refine i_iald rfl rfl (by first | omega | assumption) (by first | omega | assumption) (by decide) ?_
          -- at 29
          refine i_call (T := (62, zp_62)) rfl rfl (hr) rfl rfl rfl rfl rfl rfl rfl ?_
          try dsimp only
          show irun none zp_61 32 _ (iI ((0 : Int)) :: _) _ _ 0 0 _
          refine i_if_ne_f rfl (by first | omega | assumption) ?_
          refine i_iinc rfl rfl (by unfold iR; omega) (Nat.le_of_ble_eq_true rfl) rfl ?_
          refine i_goto rfl ?_
          -- at 15
          exact g
        · refine i_iload_n rfl rfl ?_
          refine i_if_le_f rfl (by first | omega | assumption) ?_
          refine i_aload_n rfl rfl ?_
          refine i_iload_n rfl rfl ?_
          refine i_iconst (n := 1) rfl (by unfold iR; omega) ?_
          refine i_isub rfl (by unfold iR; omega) ?_
          -- at 23
          rw [show ((k + 1 : Nat) : Int) - 1 = (k : Int) by omega]
          refine i_aload_n rfl rfl ?_
          refine i_iconst (n := 0) rfl (by unfold iR; omega) ?_
          refine i_iald rfl rfl (by first | omega | assumption) (by first | omega | assumption) (by decide) ?_
          refine i_aload_n rfl rfl ?_
          refine i_iconst (n := 1) rfl (by unfold iR; omega) ?_
          refine i_iald rfl rfl (by first | omega | assumption) (by first | omega | assumption) (by decide) ?_
          -- at 29
          refine i_call (T := (62, zp_62)) rfl rfl (hr) rfl rfl rfl rfl rfl rfl rfl ?_
          try dsimp only
          show irun none zp_61 32 _ (iI ((0 : Int)) :: _) _ _ 0 0 _
          refine i_if_ne_f rfl (by first | omega | assumption) ?_
          refine i_iinc rfl rfl (by unfold iR; omega) (Nat.le_of_ble_eq_true rfl) rfl ?_
          refine i_goto rfl ?_
          -- at 15
          exact g
  refine ⟨i_st (i_cp (i_cp M (p + 1) (7 * i) (p + 1) (7 * i + 7) (7 * (c - i))) 33 0 (p + 1) (7 * i) 7) p 1 ((c : Int) + 1), ?_, ?_, ?_, ?_, ?_⟩
  · have tail : irun none zp_61 41 [some (iP p), some (iP 33), some (iI (i : Int)), none] [] (SH b) M 0 0 (none, SH b, i_st (i_cp (i_cp M (p + 1) (7 * i) (p + 1) (7 * i + 7) (7 * (c - i))) 33 0 (p + 1) (7 * i) 7) p 1 ((c : Int) + 1)) := by
      rcases hp with rfl | rfl
      · refine i_iload_n rfl rfl ?_
        refine i_bipush (n := 7) rfl (by unfold iR; omega) (by decide) ?_
        refine i_imul rfl (by unfold iR; omega) ?_
        refine i_istore_n rfl (Nat.le_of_ble_eq_true rfl) rfl ?_
        refine i_aload_n rfl rfl ?_
        refine i_getr rfl rfl rfl rfl (by decide) rfl ?_
        refine i_iload_n rfl rfl ?_
        refine i_aload_n rfl rfl ?_
        refine i_getr rfl rfl rfl rfl (by decide) rfl ?_
        refine i_iload_n rfl rfl ?_
        refine i_bipush (n := 7) rfl (by unfold iR; omega) (by decide) ?_
        refine i_iadd rfl (by unfold iR; omega) ?_
        refine i_aload_n rfl rfl ?_
        refine i_getf rfl rfl rfl rfl (by decide) ?_
        refine i_iload_n rfl rfl ?_
        refine i_isub rfl (by unfold iR; omega) ?_
        refine i_bipush (n := 7) rfl (by unfold iR; omega) (by decide) ?_
        refine i_imul rfl (by unfold iR; omega) ?_
        -- at 68
        refine i_copy (n0 := 70) (n1 := 70) rfl rfl rfl rfl (by omega) (by omega) (by omega) (by omega) (by omega) (Nat.le_of_ble_eq_true rfl) ?_
        rw [show ((i : Int) * 7).toNat = 7 * i by omega, show ((i : Int) * 7 + 7).toNat = 7 * i + 7 by omega, show ((M 36 1 - (i : Int)) * 7).toNat = 7 * (c - i) by omega]
        refine i_aload_n rfl rfl ?_
        refine i_iconst (n := 0) rfl (by unfold iR; omega) ?_
        refine i_aload_n rfl rfl ?_
        refine i_getr rfl rfl rfl rfl (by decide) rfl ?_
        refine i_iload_n rfl rfl ?_
        refine i_bipush (n := 7) rfl (by unfold iR; omega) (by decide) ?_
        -- at 80
        refine i_copy (n0 := 7) (n1 := 70) rfl rfl rfl rfl (by omega) (by omega) (by omega) (by omega) (by omega) (Nat.le_of_ble_eq_true rfl) ?_
        rw [show ((i : Int) * 7).toNat = 7 * i by omega]
        refine i_aload_n rfl rfl ?_
        first | refine i_dup rfl ?_ | refine i_dupr rfl ?_
        refine i_getf rfl rfl rfl rfl (by decide) ?_
        -- at 88
        show irun none zp_61 88 _ (iI (M 36 1) :: _) _ _ 0 0 _
        rw [hc]
        refine i_iconst (n := 1) rfl (by unfold iR; omega) ?_
        refine i_iadd rfl (by unfold iR; omega) ?_
        refine i_puti rfl rfl rfl rfl ?_
        -- at 93
        exact i_vreturn rfl rfl
      · refine i_iload_n rfl rfl ?_
        refine i_bipush (n := 7) rfl (by unfold iR; omega) (by decide) ?_
        refine i_imul rfl (by unfold iR; omega) ?_
        refine i_istore_n rfl (Nat.le_of_ble_eq_true rfl) rfl ?_
        refine i_aload_n rfl rfl ?_
        refine i_getr rfl rfl rfl rfl (by decide) rfl ?_
        refine i_iload_n rfl rfl ?_
        refine i_aload_n rfl rfl ?_
        refine i_getr rfl rfl rfl rfl (by decide) rfl ?_
        refine i_iload_n rfl rfl ?_
        refine i_bipush (n := 7) rfl (by unfold iR; omega) (by decide) ?_
        refine i_iadd rfl (by unfold iR; omega) ?_
        refine i_aload_n rfl rfl ?_
        refine i_getf rfl rfl rfl rfl (by decide) ?_
        refine i_iload_n rfl rfl ?_
        refine i_isub rfl (by unfold iR; omega) ?_
        refine i_bipush (n := 7) rfl (by unfold iR; omega) (by decide) ?_
        refine i_imul rfl (by unfold iR; omega) ?_
        -- at 68
        refine i_copy (n0 := 70) (n1 := 70) rfl rfl rfl rfl (by omega) (by omega) (by omega) (by omega) (by omega) (Nat.le_of_ble_eq_true rfl) ?_
        rw [show ((i : Int) * 7).toNat = 7 * i by omega, show ((i : Int) * 7 + 7).toNat = 7 * i + 7 by omega, show ((M 38 1 - (i : Int)) * 7).toNat = 7 * (c - i) by omega]
        refine i_aload_n rfl rfl ?_
        refine i_iconst (n := 0) rfl (by unfold iR; omega) ?_
        refine i_aload_n rfl rfl ?_
        refine i_getr rfl rfl rfl rfl (by decide) rfl ?_
        refine i_iload_n rfl rfl ?_
        refine i_bipush (n := 7) rfl (by unfold iR; omega) (by decide) ?_
        -- at 80
        refine i_copy (n0 := 7) (n1 := 70) rfl rfl rfl rfl (by omega) (by omega) (by omega) (by omega) (by omega) (Nat.le_of_ble_eq_true rfl) ?_
        rw [show ((i : Int) * 7).toNat = 7 * i by omega]
        refine i_aload_n rfl rfl ?_
        first | refine i_dup rfl ?_ | refine i_dupr rfl ?_
        refine i_getf rfl rfl rfl rfl (by decide) ?_
        -- at 88
        show irun none zp_61 88 _ (iI (M 38 1) :: _) _ _ 0 0 _
        rw [hc]
        refine i_iconst (n := 1) rfl (by unfold iR; omega) ?_
        refine i_iadd rfl (by unfold iR; omega) ?_
        refine i_puti rfl rfl rfl rfl ?_
        -- at 93
        exact i_vreturn rfl rfl
    have l := loop _ tail c (Nat.le_refl _) ei
    rcases hp with rfl | rfl
    · refine i_aload_n rfl rfl ?_
      refine i_getf rfl rfl rfl rfl (by decide) ?_
      refine i_bipush (n := 10) rfl (by unfold iR; omega) (by decide) ?_
      refine i_icmp_lt_t rfl (by first | omega | assumption) ?_
      refine i_aload_n rfl rfl ?_
      refine i_getf rfl rfl rfl rfl (by decide) ?_
      -- at 14
      rw [hc]
      refine i_istore_n rfl (Nat.le_of_ble_eq_true rfl) rfl ?_
      -- at 15
      exact l
    · refine i_aload_n rfl rfl ?_
      refine i_getf rfl rfl rfl rfl (by decide) ?_
      refine i_bipush (n := 10) rfl (by unfold iR; omega) (by decide) ?_
      refine i_icmp_lt_t rfl (by first | omega | assumption) ?_
      refine i_aload_n rfl rfl ?_
      refine i_getf rfl rfl rfl rfl (by decide) ?_
      -- at 14
      rw [hc]
      refine i_istore_n rfl (Nat.le_of_ble_eq_true rfl) rfl ?_
      -- at 15
      exact l
  · exact Fr_st (Fr_cp (Fr_cp (Fr_r _ _) (by simp)) (by simp)) (by simp)
  · unfold i_st
    rw [up_s, up_s]
    omega
  · intro u hu
    unfold i_st i_cp
    rw [up_s, up_n hu, up_n (by omega), up_n (by omega)]
  · intro j hj
    unfold i_st i_cp
    rw [up_n (by omega), up_s, up_s, up_n (show (33 : Nat) ≠ p + 1 by omega)]
    unfold va_cpy insW
    by_cases e1 : j < 7 * i
    · rw [if_neg (by omega), if_neg (by omega), if_pos e1]
    · by_cases e2 : j < 7 * i + 7
      · rw [if_pos (by omega), if_neg e1, if_pos e2, show 0 + (j - 7 * i) = j - 7 * i by omega]
      · rw [if_neg (by omega), if_pos (by omega), if_neg e1, if_neg e2, show 7 * i + (j - (7 * i + 7)) = j - 7 by omega]
set_option maxRecDepth 100000 in
theorem c_occ {b : Bool} {M : iM} {p c : Nat} {s : Int} (hp : p = 36 ∨ p = 38) (hc : M p 1 = (c : Int)) (h10 : c ≤ 10) (hs : 0 ≤ s ∧ s ≤ 1000) (h3 : 0 ≤ M p 3 ∧ M p 3 ≤ 1000) (h4 : 0 ≤ M p 4 ∧ M p 4 ≤ 1000) (hw : ∀ k, k < c → (0 ≤ M (p + 1) (7 * k + 2) ∧ M (p + 1) (7 * k + 2) ≤ 1000) ∧ 0 ≤ M (p + 1) (7 * k + 3) ∧ M (p + 1) (7 * k + 3) ≤ 1000) : irun none zp_59 0 (i_ent [iP p, iI s] 4) [] (SH b) M 0 0 (some (bz (oU (M p 3) (M p 4) c (M (p + 1)) s)), SH b, M) := by
  by_cases r : M p 3 ≤ s ∧ s < M p 3 + M p 4
  · rw [bz_t (show oU _ _ _ _ _ from Or.inl r)]
    rcases hp with rfl | rfl
    · refine i_iload_n rfl rfl ?_
      refine i_aload_n rfl rfl ?_
      refine i_getf rfl rfl rfl rfl (by decide) ?_
      refine i_icmp_lt_f rfl (by first | omega | assumption) ?_
      refine i_iload_n rfl rfl ?_
      refine i_aload_n rfl rfl ?_
      refine i_getf rfl rfl rfl rfl (by decide) ?_
      refine i_aload_n rfl rfl ?_
      refine i_getf rfl rfl rfl rfl (by decide) ?_
      refine i_iadd rfl (by unfold iR; omega) ?_
      refine i_icmp_ge_f rfl (by first | omega | assumption) ?_
      refine i_iconst (n := 1) rfl (by unfold iR; omega) ?_
      -- at 22
      exact i_zreturn rfl rfl (by first | omega | assumption)
    · refine i_iload_n rfl rfl ?_
      refine i_aload_n rfl rfl ?_
      refine i_getf rfl rfl rfl rfl (by decide) ?_
      refine i_icmp_lt_f rfl (by first | omega | assumption) ?_
      refine i_iload_n rfl rfl ?_
      refine i_aload_n rfl rfl ?_
      refine i_getf rfl rfl rfl rfl (by decide) ?_
      refine i_aload_n rfl rfl ?_
      refine i_getf rfl rfl rfl rfl (by decide) ?_
      refine i_iadd rfl (by unfold iR; omega) ?_
      refine i_icmp_ge_f rfl (by first | omega | assumption) ?_
      refine i_iconst (n := 1) rfl (by unfold iR; omega) ?_
      -- at 22
      exact i_zreturn rfl rfl (by first | omega | assumption)
  · have loop : ∀ (d k : Nat) (x : Option iV), k + d = c → (∀ j, j < k → ¬ (M (p + 1) (7 * j + 2) ≤ s ∧ s < M (p + 1) (7 * j + 2) + M (p + 1) (7 * j + 3))) → irun none zp_59 25 [some (iP p), some (iI s), some (iI (k : Int)), x] [] (SH b) M 0 0 (some (bz (oU (M p 3) (M p 4) c (M (p + 1)) s)), SH b, M) := by
      intro d
      induction d with
      | zero =>
        intro k x hk hno
        obtain rfl : k = c := by omega
        rw [bz_f (show ¬ oU _ _ _ _ _ from fun q => q.elim r (fun ⟨j, j1, j2⟩ => hno j j1 j2))]
        rcases hp with rfl | rfl
        · refine i_iload_n rfl rfl ?_
          refine i_aload_n rfl rfl ?_
          refine i_getf rfl rfl rfl rfl (by decide) ?_
          refine i_icmp_ge_t rfl (by first | omega | assumption) ?_
          refine i_iconst (n := 0) rfl (by unfold iR; omega) ?_
          -- at 66
          exact i_zreturn rfl rfl (by first | omega | assumption)
        · refine i_iload_n rfl rfl ?_
          refine i_aload_n rfl rfl ?_
          refine i_getf rfl rfl rfl rfl (by decide) ?_
          refine i_icmp_ge_t rfl (by first | omega | assumption) ?_
          refine i_iconst (n := 0) rfl (by unfold iR; omega) ?_
          -- at 66
          exact i_zreturn rfl rfl (by first | omega | assumption)
      | succ d ih =>
        intro k x hk hno
        have w2 := c_word (b := b) (M := M) (p := p) (k := k) (u := 2) hp (by omega) (by decide)
        have w3 := c_word (b := b) (M := M) (p := p) (k := k) (u := 3) hp (by omega) (by decide)
        have hwk := hw k (by omega)
        by_cases q : M (p + 1) (7 * k + 2) ≤ s ∧ s < M (p + 1) (7 * k + 2) + M (p + 1) (7 * k + 3)
        · rw [bz_t (show oU _ _ _ _ _ from Or.inr ⟨k, by omega, q⟩)]
          rcases hp with rfl | rfl
          · refine i_iload_n rfl rfl ?_
            refine i_aload_n rfl rfl ?_
            refine i_getf rfl rfl rfl rfl (by decide) ?_
            refine i_icmp_ge_f rfl (by first | omega | assumption) ?_
            refine i_aload_n rfl rfl ?_
            refine i_iload_n rfl rfl ?_
            refine i_iconst (n := 2) rfl (by unfold iR; omega) ?_
            -- at 36
            refine i_call (T := (55, zp_55)) rfl rfl (w2) rfl rfl rfl rfl rfl rfl rfl ?_
            try dsimp only
            show irun none zp_59 39 _ (iI (M (36 + 1) (7 * k + 2)) :: _) _ _ 0 0 _
            refine i_istore_n rfl (Nat.le_of_ble_eq_true rfl) rfl ?_
            refine i_iload_n rfl rfl ?_
            refine i_iload_n rfl rfl ?_
            refine i_icmp_lt_f rfl (by first | omega | assumption) ?_
            refine i_iload_n rfl rfl ?_
            refine i_iload_n rfl rfl ?_
            refine i_aload_n rfl rfl ?_
            refine i_iload_n rfl rfl ?_
            refine i_iconst (n := 3) rfl (by unfold iR; omega) ?_
            -- at 50
            refine i_call (T := (55, zp_55)) rfl rfl (w3) rfl rfl rfl rfl rfl rfl rfl ?_
            try dsimp only
            show irun none zp_59 53 _ (iI (M (36 + 1) (7 * k + 3)) :: _) _ _ 0 0 _
            refine i_iadd rfl (by unfold iR; omega) ?_
            refine i_icmp_ge_f rfl (by first | omega | assumption) ?_
            refine i_iconst (n := 1) rfl (by unfold iR; omega) ?_
            -- at 58
            exact i_zreturn rfl rfl (by first | omega | assumption)
          · refine i_iload_n rfl rfl ?_
            refine i_aload_n rfl rfl ?_
            refine i_getf rfl rfl rfl rfl (by decide) ?_
            refine i_icmp_ge_f rfl (by first | omega | assumption) ?_
            refine i_aload_n rfl rfl ?_
            refine i_iload_n rfl rfl ?_
            refine i_iconst (n := 2) rfl (by unfold iR; omega) ?_
            -- at 36
            refine i_call (T := (55, zp_55)) rfl rfl (w2) rfl rfl rfl rfl rfl rfl rfl ?_
            try dsimp only
            show irun none zp_59 39 _ (iI (M (38 + 1) (7 * k + 2)) :: _) _ _ 0 0 _
            refine i_istore_n rfl (Nat.le_of_ble_eq_true rfl) rfl ?_
            refine i_iload_n rfl rfl ?_
            refine i_iload_n rfl rfl ?_
            refine i_icmp_lt_f rfl (by first | omega | assumption) ?_
            refine i_iload_n rfl rfl ?_
            refine i_iload_n rfl rfl ?_
            refine i_aload_n rfl rfl ?_
            refine i_iload_n rfl rfl ?_
            refine i_iconst (n := 3) rfl (by unfold iR; omega) ?_
            -- at 50
            refine i_call (T := (55, zp_55)) rfl rfl (w3) rfl rfl rfl rfl rfl rfl rfl ?_
            try dsimp only
            show irun none zp_59 53 _ (iI (M (38 + 1) (7 * k + 3)) :: _) _ _ 0 0 _
            refine i_iadd rfl (by unfold iR; omega) ?_
            refine i_icmp_ge_f rfl (by first | omega | assumption) ?_
            refine i_iconst (n := 1) rfl (by unfold iR; omega) ?_
            -- at 58
            exact i_zreturn rfl rfl (by first | omega | assumption)
        · have g := ih (k + 1) (some (iI (M (p + 1) (7 * k + 2)))) (by omega) (fun j hj => by
            by_cases e : j = k
            · rw [e]; exact q
            · exact hno j (by omega))
          by_cases q1 : s < M (p + 1) (7 * k + 2)
          · rcases hp with rfl | rfl
            · refine i_iload_n rfl rfl ?_
              refine i_aload_n rfl rfl ?_
              refine i_getf rfl rfl rfl rfl (by decide) ?_
              refine i_icmp_ge_f rfl (by first | omega | assumption) ?_
              refine i_aload_n rfl rfl ?_
              refine i_iload_n rfl rfl ?_
              refine i_iconst (n := 2) rfl (by unfold iR; omega) ?_
              -- at 36
              refine i_call (T := (55, zp_55)) rfl rfl (w2) rfl rfl rfl rfl rfl rfl rfl ?_
              try dsimp only
              show irun none zp_59 39 _ (iI (M (36 + 1) (7 * k + 2)) :: _) _ _ 0 0 _
              refine i_istore_n rfl (Nat.le_of_ble_eq_true rfl) rfl ?_
              refine i_iload_n rfl rfl ?_
              refine i_iload_n rfl rfl ?_
              refine i_icmp_lt_t rfl (by first | omega | assumption) ?_
              refine i_iinc rfl rfl (by unfold iR; omega) (Nat.le_of_ble_eq_true rfl) rfl ?_
              refine i_goto rfl ?_
              -- at 25
              exact g
            · refine i_iload_n rfl rfl ?_
              refine i_aload_n rfl rfl ?_
              refine i_getf rfl rfl rfl rfl (by decide) ?_
              refine i_icmp_ge_f rfl (by first | omega | assumption) ?_
              refine i_aload_n rfl rfl ?_
              refine i_iload_n rfl rfl ?_
              refine i_iconst (n := 2) rfl (by unfold iR; omega) ?_
              -- at 36
              refine i_call (T := (55, zp_55)) rfl rfl (w2) rfl rfl rfl rfl rfl rfl rfl ?_
              try dsimp only
              show irun none zp_59 39 _ (iI (M (38 + 1) (7 * k + 2)) :: _) _ _ 0 0 _
              refine i_istore_n rfl (Nat.le_of_ble_eq_true rfl) rfl ?_
              refine i_iload_n rfl rfl ?_
              refine i_iload_n rfl rfl ?_
              refine i_icmp_lt_t rfl (by first | omega | assumption) ?_
              refine i_iinc rfl rfl (by unfold iR; omega) (Nat.le_of_ble_eq_true rfl) rfl ?_
              refine i_goto rfl ?_
              -- at 25
              exact g
          · rcases hp with rfl | rfl
            · refine i_iload_n rfl rfl ?_
              refine i_aload_n rfl rfl ?_
              refine i_getf rfl rfl rfl rfl (by decide) ?_
              refine i_icmp_ge_f rfl (by first | omega | assumption) ?_
              refine i_aload_n rfl rfl ?_
              refine i_iload_n rfl rfl ?_
              refine i_iconst (n := 2) rfl (by unfold iR; omega) ?_
              -- at 36
              refine i_call (T := (55, zp_55)) rfl rfl (w2) rfl rfl rfl rfl rfl rfl rfl ?_
              try dsimp only
              show irun none zp_59 39 _ (iI (M (36 + 1) (7 * k + 2)) :: _) _ _ 0 0 _
              refine i_istore_n rfl (Nat.le_of_ble_eq_true rfl) rfl ?_
              refine i_iload_n rfl rfl ?_
              refine i_iload_n rfl rfl ?_
              refine i_icmp_lt_f rfl (by first | omega | assumption) ?_
              refine i_iload_n rfl rfl ?_
              refine i_iload_n rfl rfl ?_
              refine i_aload_n rfl rfl ?_
              refine i_iload_n rfl rfl ?_
              refine i_iconst (n := 3) rfl (by unfold iR; omega) ?_
              -- at 50
              refine i_call (T := (55, zp_55)) rfl rfl (w3) rfl rfl rfl rfl rfl rfl rfl ?_
              try dsimp only
              show irun none zp_59 53 _ (iI (M (36 + 1) (7 * k + 3)) :: _) _ _ 0 0 _
              refine i_iadd rfl (by unfold iR; omega) ?_
              refine i_icmp_ge_t rfl (by first | omega | assumption) ?_
              refine i_iinc rfl rfl (by unfold iR; omega) (Nat.le_of_ble_eq_true rfl) rfl ?_
              refine i_goto rfl ?_
              -- at 25
              exact g
            · refine i_iload_n rfl rfl ?_
              refine i_aload_n rfl rfl ?_
              refine i_getf rfl rfl rfl rfl (by decide) ?_
              refine i_icmp_ge_f rfl (by first | omega | assumption) ?_
              refine i_aload_n rfl rfl ?_
              refine i_iload_n rfl rfl ?_
              refine i_iconst (n := 2) rfl (by unfold iR; omega) ?_
              -- at 36
              refine i_call (T := (55, zp_55)) rfl rfl (w2) rfl rfl rfl rfl rfl rfl rfl ?_
              try dsimp only
              show irun none zp_59 39 _ (iI (M (38 + 1) (7 * k + 2)) :: _) _ _ 0 0 _
              refine i_istore_n rfl (Nat.le_of_ble_eq_true rfl) rfl ?_
              refine i_iload_n rfl rfl ?_
              refine i_iload_n rfl rfl ?_
              refine i_icmp_lt_f rfl (by first | omega | assumption) ?_
              refine i_iload_n rfl rfl ?_
              refine i_iload_n rfl rfl ?_
              refine i_aload_n rfl rfl ?_
              refine i_iload_n rfl rfl ?_
              refine i_iconst (n := 3) rfl (by unfold iR; omega) ?_
              -- at 50
              refine i_call (T := (55, zp_55)) rfl rfl (w3) rfl rfl rfl rfl rfl rfl rfl ?_
              try dsimp only
              show irun none zp_59 53 _ (iI (M (38 + 1) (7 * k + 3)) :: _) _ _ 0 0 _
              refine i_iadd rfl (by unfold iR; omega) ?_
              refine i_icmp_ge_t rfl (by first | omega | assumption) ?_
              refine i_iinc rfl rfl (by unfold iR; omega) (Nat.le_of_ble_eq_true rfl) rfl ?_
              refine i_goto rfl ?_
              -- at 25
              exact g
    have l := loop c 0 none (by omega) (fun j hj => by omega)
    by_cases r1 : s < M p 3
    · rcases hp with rfl | rfl
      · refine i_iload_n rfl rfl ?_
        refine i_aload_n rfl rfl ?_
        refine i_getf rfl rfl rfl rfl (by decide) ?_
        refine i_icmp_lt_t rfl (by first | omega | assumption) ?_
        refine i_iconst (n := 0) rfl (by unfold iR; omega) ?_
        refine i_istore_n rfl (Nat.le_of_ble_eq_true rfl) rfl ?_
        -- at 25
        exact l
      · refine i_iload_n rfl rfl ?_
        refine i_aload_n rfl rfl ?_
        refine i_getf rfl rfl rfl rfl (by decide) ?_
        refine i_icmp_lt_t rfl (by first | omega | assumption) ?_
        refine i_iconst (n := 0) rfl (by unfold iR; omega) ?_
        refine i_istore_n rfl (Nat.le_of_ble_eq_true rfl) rfl ?_
        -- at 25
        exact l
    · rcases hp with rfl | rfl
      · refine i_iload_n rfl rfl ?_
        refine i_aload_n rfl rfl ?_
        refine i_getf rfl rfl rfl rfl (by decide) ?_
        refine i_icmp_lt_f rfl (by first | omega | assumption) ?_
        refine i_iload_n rfl rfl ?_
        refine i_aload_n rfl rfl ?_
        refine i_getf rfl rfl rfl rfl (by decide) ?_
        refine i_aload_n rfl rfl ?_
        refine i_getf rfl rfl rfl rfl (by decide) ?_
        refine i_iadd rfl (by unfold iR; omega) ?_
        refine i_icmp_ge_t rfl (by first | omega | assumption) ?_
        refine i_iconst (n := 0) rfl (by unfold iR; omega) ?_
        refine i_istore_n rfl (Nat.le_of_ble_eq_true rfl) rfl ?_
        -- at 25
        exact l
      · refine i_iload_n rfl rfl ?_
        refine i_aload_n rfl rfl ?_
        refine i_getf rfl rfl rfl rfl (by decide) ?_
        refine i_icmp_lt_f rfl (by first | omega | assumption) ?_
        refine i_iload_n rfl rfl ?_
        refine i_aload_n rfl rfl ?_
        refine i_getf rfl rfl rfl rfl (by decide) ?_
        refine i_aload_n rfl rfl ?_
        refine i_getf rfl rfl rfl rfl (by decide) ?_
        refine i_iadd rfl (by unfold iR; omega) ?_
        refine i_icmp_ge_t rfl (by first | omega | assumption) ?_
        refine i_iconst (n := 0) rfl (by unfold iR; omega) ?_
        refine i_istore_n rfl (Nat.le_of_ble_eq_true rfl) rfl ?_
        -- at 25
        exact l
def oB (M : iM) (p c : Nat) : Prop := M p 1 = (c : Int) ∧ c ≤ 10 ∧ (0 ≤ M p 3 ∧ M p 3 ≤ 1000) ∧ (0 ≤ M p 4 ∧ M p 4 ≤ 1000) ∧ ∀ k, k < c → (0 ≤ M (p + 1) (7 * k + 2) ∧ M (p + 1) (7 * k + 2) ≤ 1000) ∧ 0 ≤ M (p + 1) (7 * k + 3) ∧ M (p + 1) (7 * k + 3) ≤ 1000
def oM (M : iM) (p c : Nat) (s : Int) : Prop := oU (M p 3) (M p 4) c (M (p + 1)) s
set_option maxRecDepth 100000 in
theorem c_free {b : Bool} {M : iM} {c c' : Nat} {n : Int} (hi : oB M (pI b) c) (hp : oB M (pP b) c') (hn : 0 ≤ n ∧ n ≤ 1000) : irun none zp_25 0 (i_ent [iP 0, iI n] 5) [] (SH b) M 0 0 (some (fpl (fun s => oM M (pI b) c s ∨ oM M (pP b) c' s) n 46 2 0), SH b, M) := by
  obtain ⟨a1, a2, a3, a4, a5⟩ := hi
  obtain ⟨b1, b2, b3, b4, b5⟩ := hp
  have hpi : pI b = 36 ∨ pI b = 38 := by cases b <;> decide
  have hpp : pP b = 36 ∨ pP b = 38 := by cases b <;> decide
  have loop : ∀ (d : Nat) (s r : Int) (x : Option iV), s + d = 48 → 2 ≤ s → 0 ≤ r → r ≤ s → irun none zp_25 4 [some (iP 0), some (iI n), some (iI r), some (iI s), x] [] (SH b) M 0 0 (some (fpl (fun s => oM M (pI b) c s ∨ oM M (pP b) c' s) n d s r), SH b, M) := by
    intro d
    induction d with
    | zero =>
      intro s r x hs h2 h0 hr
      show irun none _ _ _ _ _ _ 0 0 (some (-1), SH b, M)
      refine i_iload_n rfl rfl ?_
      refine i_bipush (n := 48) rfl (by unfold iR; omega) (by decide) ?_
      refine i_icmp_ge_t rfl (by first | omega | assumption) ?_
      refine i_iconst (n := -1) rfl (by unfold iR; omega) ?_
      -- at 70
      exact i_ireturn rfl rfl
    | succ d ih =>
      intro s r x hs h2 h0 hr
      have o1 := c_occ (b := b) (s := s) hpi a1 a2 (by omega) a3 a4 a5
      have o2 := c_occ (b := b) (s := s) hpp b1 b2 (by omega) b3 b4 b5
      have ef : fpl (fun s => oM M (pI b) c s ∨ oM M (pP b) c' s) n (d + 1) s r = if ur (oM M (pI b) c s ∨ oM M (pP b) c' s) r = n then s - n + 1 else fpl (fun s => oM M (pI b) c s ∨ oM M (pP b) c' s) n d (s + 1) (ur (oM M (pI b) c s ∨ oM M (pP b) c' s) r) := rfl
      rw [ef]
      generalize eR : fpl (fun s => oM M (pI b) c s ∨ oM M (pP b) c' s) n d (s + 1) = F at *
      have tail : ∀ (r' : Int), 0 ≤ r' → r' ≤ s + 1 → ∀ y : Int, irun none zp_25 52 [some (iP 0), some (iI n), some (iI r'), some (iI s), some (iI y)] [] (SH b) M 0 0 (some (if r' = n then s - n + 1 else F r'), SH b, M) := by
        intro r' h1 h2 y
        have g := ih (s + 1) r' (some (iI y)) (by omega) (by omega) h1 h2
        rw [eR] at g
        by_cases e : r' = n
        · rw [if_pos e]
          refine i_iload_n rfl rfl ?_
          refine i_iload_n rfl rfl ?_
          refine i_icmp_ne_f rfl (by first | omega | assumption) ?_
          refine i_iload_n rfl rfl ?_
          refine i_iload_n rfl rfl ?_
          refine i_isub rfl (by unfold iR; omega) ?_
          refine i_iconst (n := 1) rfl (by unfold iR; omega) ?_
          refine i_iadd rfl (by unfold iR; omega) ?_
          -- at 62
          exact i_ireturn rfl rfl
        · rw [if_neg e]
          refine i_iload_n rfl rfl ?_
          refine i_iload_n rfl rfl ?_
          refine i_icmp_ne_t rfl (by first | omega | assumption) ?_
          refine i_iinc rfl rfl (by unfold iR; omega) (Nat.le_of_ble_eq_true rfl) rfl ?_
          refine i_goto rfl ?_
          -- at 4
          exact g
      by_cases q1 : oM M (pI b) c s
      · rw [ur_t (Or.inl q1)]
        rw [bz_t (show oU _ _ _ _ _ from q1)] at o1
        have t := tail 0 (by omega) (by omega) 1
        cases b
        · refine i_iload_n rfl rfl ?_
          refine i_bipush (n := 48) rfl (by unfold iR; omega) (by decide) ?_
          refine i_icmp_ge_f rfl (by first | omega | assumption) ?_
          refine i_aload_n rfl rfl ?_
          refine i_getr rfl rfl rfl rfl (by decide) rfl ?_
          refine i_iload_n rfl rfl ?_
          -- at 15
          refine i_call (T := (59, zp_59)) rfl rfl (o1) rfl rfl rfl rfl rfl rfl rfl ?_
          try dsimp only
          show irun none zp_25 18 _ (iI ((1 : Int)) :: _) _ _ 0 0 _
          refine i_if_ne_t rfl (by first | omega | assumption) ?_
          refine i_iconst (n := 1) rfl (by unfold iR; omega) ?_
          refine i_goto rfl ?_
          refine i_istore rfl (Nat.le_of_ble_eq_true rfl) rfl ?_
          refine i_iload rfl rfl ?_
          refine i_if_eq_f rfl (by first | omega | assumption) ?_
          refine i_iconst (n := 0) rfl (by unfold iR; omega) ?_
          refine i_goto rfl ?_
          refine i_istore_n rfl (Nat.le_of_ble_eq_true rfl) rfl ?_
          -- at 52
          exact t
        · refine i_iload_n rfl rfl ?_
          refine i_bipush (n := 48) rfl (by unfold iR; omega) (by decide) ?_
          refine i_icmp_ge_f rfl (by first | omega | assumption) ?_
          refine i_aload_n rfl rfl ?_
          refine i_getr rfl rfl rfl rfl (by decide) rfl ?_
          refine i_iload_n rfl rfl ?_
          -- at 15
          refine i_call (T := (59, zp_59)) rfl rfl (o1) rfl rfl rfl rfl rfl rfl rfl ?_
          try dsimp only
          show irun none zp_25 18 _ (iI ((1 : Int)) :: _) _ _ 0 0 _
          refine i_if_ne_t rfl (by first | omega | assumption) ?_
          refine i_iconst (n := 1) rfl (by unfold iR; omega) ?_
          refine i_goto rfl ?_
          refine i_istore rfl (Nat.le_of_ble_eq_true rfl) rfl ?_
          refine i_iload rfl rfl ?_
          refine i_if_eq_f rfl (by first | omega | assumption) ?_
          refine i_iconst (n := 0) rfl (by unfold iR; omega) ?_
          refine i_goto rfl ?_
          refine i_istore_n rfl (Nat.le_of_ble_eq_true rfl) rfl ?_
          -- at 52
          exact t
      · rw [bz_f (show ¬ oU _ _ _ _ _ from q1)] at o1
        by_cases q2 : oM M (pP b) c' s
        · rw [ur_t (Or.inr q2)]
          rw [bz_t (show oU _ _ _ _ _ from q2)] at o2
          have t := tail 0 (by omega) (by omega) 1
          cases b
          · refine i_iload_n rfl rfl ?_
            refine i_bipush (n := 48) rfl (by unfold iR; omega) (by decide) ?_
            refine i_icmp_ge_f rfl (by first | omega | assumption) ?_
            refine i_aload_n rfl rfl ?_
            refine i_getr (p2 := 36) rfl rfl rfl rfl (by decide) rfl ?_
            refine i_iload_n rfl rfl ?_
            -- at 15
            refine i_call (T := (59, zp_59)) rfl rfl (o1) rfl rfl rfl rfl rfl rfl rfl ?_
            try dsimp only
            show irun none zp_25 18 _ (iI ((0 : Int)) :: _) _ _ 0 0 _
            refine i_if_ne_f rfl (by first | omega | assumption) ?_
            refine i_aload_n rfl rfl ?_
            refine i_getr (p2 := 38) rfl rfl rfl rfl (by decide) rfl ?_
            refine i_iload_n rfl rfl ?_
            -- at 26
            refine i_call (T := (59, zp_59)) rfl rfl (o2) rfl rfl rfl rfl rfl rfl rfl ?_
            try dsimp only
            show irun none zp_25 29 _ (iI ((1 : Int)) :: _) _ _ 0 0 _
            refine i_if_eq_f rfl (by first | omega | assumption) ?_
            refine i_iconst (n := 1) rfl (by unfold iR; omega) ?_
            refine i_goto rfl ?_
            refine i_istore rfl (Nat.le_of_ble_eq_true rfl) rfl ?_
            refine i_iload rfl rfl ?_
            refine i_if_eq_f rfl (by first | omega | assumption) ?_
            refine i_iconst (n := 0) rfl (by unfold iR; omega) ?_
            refine i_goto rfl ?_
            refine i_istore_n rfl (Nat.le_of_ble_eq_true rfl) rfl ?_
            -- at 52
            exact t
          · refine i_iload_n rfl rfl ?_
            refine i_bipush (n := 48) rfl (by unfold iR; omega) (by decide) ?_
            refine i_icmp_ge_f rfl (by first | omega | assumption) ?_
            refine i_aload_n rfl rfl ?_
            refine i_getr (p2 := 38) rfl rfl rfl rfl (by decide) rfl ?_
            refine i_iload_n rfl rfl ?_
            -- at 15
            refine i_call (T := (59, zp_59)) rfl rfl (o1) rfl rfl rfl rfl rfl rfl rfl ?_
            try dsimp only
            show irun none zp_25 18 _ (iI ((0 : Int)) :: _) _ _ 0 0 _
            refine i_if_ne_f rfl (by first | omega | assumption) ?_
            refine i_aload_n rfl rfl ?_
            refine i_getr (p2 := 36) rfl rfl rfl rfl (by decide) rfl ?_
            refine i_iload_n rfl rfl ?_
            -- at 26
            refine i_call (T := (59, zp_59)) rfl rfl (o2) rfl rfl rfl rfl rfl rfl rfl ?_
            try dsimp only
            show irun none zp_25 29 _ (iI ((1 : Int)) :: _) _ _ 0 0 _
            refine i_if_eq_f rfl (by first | omega | assumption) ?_
            refine i_iconst (n := 1) rfl (by unfold iR; omega) ?_
            refine i_goto rfl ?_
            refine i_istore rfl (Nat.le_of_ble_eq_true rfl) rfl ?_
            refine i_iload rfl rfl ?_
            refine i_if_eq_f rfl (by first | omega | assumption) ?_
            refine i_iconst (n := 0) rfl (by unfold iR; omega) ?_
            refine i_goto rfl ?_
            refine i_istore_n rfl (Nat.le_of_ble_eq_true rfl) rfl ?_
            -- at 52
            exact t
        · rw [ur_f (fun q => q.elim q1 q2)]
          rw [bz_f (show ¬ oU _ _ _ _ _ from q2)] at o2
          have t := tail (r + 1) (by omega) (by omega) 0
          cases b
          · refine i_iload_n rfl rfl ?_
            refine i_bipush (n := 48) rfl (by unfold iR; omega) (by decide) ?_
            refine i_icmp_ge_f rfl (by first | omega | assumption) ?_
            refine i_aload_n rfl rfl ?_
            refine i_getr (p2 := 36) rfl rfl rfl rfl (by decide) rfl ?_
            refine i_iload_n rfl rfl ?_
            -- at 15
            refine i_call (T := (59, zp_59)) rfl rfl (o1) rfl rfl rfl rfl rfl rfl rfl ?_
            try dsimp only
            show irun none zp_25 18 _ (iI ((0 : Int)) :: _) _ _ 0 0 _
            refine i_if_ne_f rfl (by first | omega | assumption) ?_
            refine i_aload_n rfl rfl ?_
            refine i_getr (p2 := 38) rfl rfl rfl rfl (by decide) rfl ?_
            refine i_iload_n rfl rfl ?_
            -- at 26
            refine i_call (T := (59, zp_59)) rfl rfl (o2) rfl rfl rfl rfl rfl rfl rfl ?_
            try dsimp only
            show irun none zp_25 29 _ (iI ((0 : Int)) :: _) _ _ 0 0 _
            refine i_if_eq_t rfl (by first | omega | assumption) ?_
            refine i_iconst (n := 0) rfl (by unfold iR; omega) ?_
            refine i_istore rfl (Nat.le_of_ble_eq_true rfl) rfl ?_
            refine i_iload rfl rfl ?_
            refine i_if_eq_t rfl (by first | omega | assumption) ?_
            refine i_iload_n rfl rfl ?_
            refine i_iconst (n := 1) rfl (by unfold iR; omega) ?_
            refine i_iadd rfl (by unfold iR; omega) ?_
            refine i_istore_n rfl (Nat.le_of_ble_eq_true rfl) rfl ?_
            -- at 52
            exact t
          · refine i_iload_n rfl rfl ?_
            refine i_bipush (n := 48) rfl (by unfold iR; omega) (by decide) ?_
            refine i_icmp_ge_f rfl (by first | omega | assumption) ?_
            refine i_aload_n rfl rfl ?_
            refine i_getr (p2 := 38) rfl rfl rfl rfl (by decide) rfl ?_
            refine i_iload_n rfl rfl ?_
            -- at 15
            refine i_call (T := (59, zp_59)) rfl rfl (o1) rfl rfl rfl rfl rfl rfl rfl ?_
            try dsimp only
            show irun none zp_25 18 _ (iI ((0 : Int)) :: _) _ _ 0 0 _
            refine i_if_ne_f rfl (by first | omega | assumption) ?_
            refine i_aload_n rfl rfl ?_
            refine i_getr (p2 := 36) rfl rfl rfl rfl (by decide) rfl ?_
            refine i_iload_n rfl rfl ?_
            -- at 26
            refine i_call (T := (59, zp_59)) rfl rfl (o2) rfl rfl rfl rfl rfl rfl rfl ?_
            try dsimp only
            show irun none zp_25 29 _ (iI ((0 : Int)) :: _) _ _ 0 0 _
            refine i_if_eq_t rfl (by first | omega | assumption) ?_
            refine i_iconst (n := 0) rfl (by unfold iR; omega) ?_
            refine i_istore rfl (Nat.le_of_ble_eq_true rfl) rfl ?_
            refine i_iload rfl rfl ?_
            refine i_if_eq_t rfl (by first | omega | assumption) ?_
            refine i_iload_n rfl rfl ?_
            refine i_iconst (n := 1) rfl (by unfold iR; omega) ?_
            refine i_iadd rfl (by unfold iR; omega) ?_
            refine i_istore_n rfl (Nat.le_of_ble_eq_true rfl) rfl ?_
            -- at 52
            exact t
  refine i_iconst (n := 0) rfl (by unfold iR; omega) ?_
  refine i_istore_n rfl (Nat.le_of_ble_eq_true rfl) rfl ?_
  refine i_iconst (n := 2) rfl (by unfold iR; omega) ?_
  refine i_istore_n rfl (Nat.le_of_ble_eq_true rfl) rfl ?_
  -- at 4
  exact loop 46 2 0 none (by omega) (by omega) (by omega) (by omega)
set_option maxRecDepth 100000 in
theorem c_earlier {b : Bool} {M : iM} {i : Nat} (hi : i < 4) : irun none zp_74 0 (i_ent [iP 5, iI (i : Int)] 4) [] (SH b) M 0 0 (some (oc (M 8) (M 8 i) i : Int), SH b, M) := by
  have loop : ∀ (d k : Nat), k + d = i → irun none zp_74 4 [some (iP 5), some (iI (i : Int)), some (iI (oc (M 8) (M 8 i) k : Int)), some (iI (k : Int))] [] (SH b) M 0 0 (some (oc (M 8) (M 8 i) i : Int), SH b, M) := by
    intro d
    induction d with
    | zero =>
      intro k hk
      obtain rfl : k = i := by omega
      refine i_iload_n rfl rfl ?_
      refine i_iload_n rfl rfl ?_
      refine i_icmp_ge_t rfl (by first | omega | assumption) ?_
      refine i_iload_n rfl rfl ?_
      -- at 39
      exact i_ireturn rfl rfl
    | succ d ih =>
      intro k hk
      have g := ih (k + 1) (by omega)
      have ob := oc_b (M 8) (M 8 i) k
      rw [show oc (M 8) (M 8 i) (k + 1) = oc (M 8) (M 8 i) k + (if M 8 k = M 8 i then 1 else 0) from rfl] at g
      refine i_iload_n rfl rfl ?_
      refine i_iload_n rfl rfl ?_
      refine i_icmp_ge_f rfl (by first | omega | assumption) ?_
      refine i_iload_n rfl rfl ?_
      refine i_aload_n rfl rfl ?_
      refine i_getr rfl rfl rfl rfl (by decide) rfl ?_
      refine i_iload_n rfl rfl ?_
      refine i_iald rfl rfl (by first | omega | assumption) (by first | omega | assumption) (by decide) ?_
      -- at 16
      rw [show (k : Int).toNat = k by omega]
      refine i_aload_n rfl rfl ?_
      refine i_getr rfl rfl rfl rfl (by decide) rfl ?_
      refine i_iload_n rfl rfl ?_
      refine i_iald rfl rfl (by first | omega | assumption) (by first | omega | assumption) (by decide) ?_
      -- at 22
      rw [show (i : Int).toNat = i by omega]
      by_cases e : M 8 k = M 8 i
      · rw [if_pos e, show ((oc (M 8) (M 8 i) k + 1 : Nat) : Int) = (oc (M 8) (M 8 i) k : Int) + 1 by omega] at g
        refine i_icmp_ne_f rfl (by first | omega | assumption) ?_
        refine i_iconst (n := 1) rfl (by unfold iR; omega) ?_
        refine i_goto rfl ?_
        refine i_iadd rfl (by unfold iR; omega) ?_
        refine i_istore_n rfl (Nat.le_of_ble_eq_true rfl) rfl ?_
        refine i_iinc rfl rfl (by unfold iR; omega) (Nat.le_of_ble_eq_true rfl) rfl ?_
        refine i_goto rfl ?_
        -- at 4
        exact g
      · rw [if_neg e, show ((oc (M 8) (M 8 i) k + 0 : Nat) : Int) = (oc (M 8) (M 8 i) k : Int) + 0 by omega] at g
        refine i_icmp_ne_t rfl (by first | omega | assumption) ?_
        refine i_iconst (n := 0) rfl (by unfold iR; omega) ?_
        refine i_iadd rfl (by unfold iR; omega) ?_
        refine i_istore_n rfl (Nat.le_of_ble_eq_true rfl) rfl ?_
        refine i_iinc rfl rfl (by unfold iR; omega) (Nat.le_of_ble_eq_true rfl) rfl ?_
        refine i_goto rfl ?_
        -- at 4
        exact g
  refine i_iconst (n := 0) rfl (by unfold iR; omega) ?_
  refine i_istore_n rfl (Nat.le_of_ble_eq_true rfl) rfl ?_
  refine i_iconst (n := 0) rfl (by unfold iR; omega) ?_
  refine i_istore_n rfl (Nat.le_of_ble_eq_true rfl) rfl ?_
  -- at 4
  exact loop i 0 (by omega)
