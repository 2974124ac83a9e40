def F2 (M : iM) (c : Nat) (m : Int) (j : Nat) : Int := if j < 1 + 7 * c ∧ 0 < m then M 43 j else 0
def F3 (x f s : Int) (j : Nat) : Int := if j = 0 then 83 else if j = 1 then 65 else if j = 2 then x else if j = 3 then f else if j = 4 then s else 0
theorem fill_s {M : iM} {p k : Nat} {F : Nat → Int} : i_st (va_up M p (fun j => if j < k then F j else M p j)) p k (F k) = va_up M p (fun j => if j < k + 1 then F j else M p j) := by
  funext x j
  unfold i_st
  by_cases e1 : x = p
  · rw [e1, up_s, up_s, up_s]
    by_cases e2 : j = k
    · rw [e2, up_s, if_pos (by omega)]
    · rw [up_n e2]
      by_cases e3 : j < k
      · rw [if_pos e3, if_pos (by omega)]
      · rw [if_neg e3, if_neg (by omega)]
  · rw [up_n e1, up_n e1, up_n e1]
theorem fill_0 {M : iM} {p : Nat} {F : Nat → Int} : va_up M p (fun j => if j < 0 then F j else M p j) = M := by
  funext x j
  by_cases e : x = p
  · rw [e, up_s, if_neg (by omega)]
  · rw [up_n e]
set_option maxRecDepth 100000 in
theorem d_fill2 {b : Bool} {M : iM} {c : Nat} {x1 x2 x3 m x5 : Int} (hc : M 43 0 = (c : Int)) (h10 : c ≤ 10) : ∀ q, irun none zp_153 89 [some (iP 40), some (iI x1), some (iI x2), some (iI x3), some (iI m), some (iI x5), some (iI ((128 : Nat) : Int)), none, none] [] (SH b) (va_up M 50 (fun j => if j < 128 then F2 M c m j else M 50 j)) 0 0 q → irun none zp_153 36 [some (iP 40), some (iI x1), some (iI x2), some (iI x3), some (iI m), some (iI x5), some (iI 0), none, none] [] (SH b) M 0 0 q := by
  intro q hq
  have loop : ∀ (d k : Nat), k + d = 128 → irun none zp_153 36 [some (iP 40), some (iI x1), some (iI x2), some (iI x3), some (iI m), some (iI x5), some (iI (k : Int)), none, none] [] (SH b) (va_up M 50 (fun j => if j < k then F2 M c m j else M 50 j)) 0 0 q := by
    intro d
    induction d with
    | zero =>
      intro k hk
      obtain rfl : k = 128 := by omega
      refine i_iload rfl rfl ?_
      refine i_sipush (n := 128) rfl (by unfold iR; omega) (by decide) ?_
      refine i_icmp_ge_t rfl (by first | omega | assumption) ?_
      -- at 89
      exact hq
    | succ d ih =>
      intro k hk
      have g := ih (k + 1) (by omega)
      rw [← fill_s] at g
      refine i_iload rfl rfl ?_
      refine i_sipush (n := 128) rfl (by unfold iR; omega) (by decide) ?_
      refine i_icmp_ge_f rfl (by first | omega | assumption) ?_
      refine i_aload_n rfl rfl ?_
      refine i_getr rfl rfl rfl rfl (by decide) rfl ?_
      refine i_iload rfl rfl ?_
      refine i_iload rfl rfl ?_
      refine i_iconst (n := 1) rfl (by unfold iR; omega) ?_
      refine i_bipush (n := 7) rfl (by unfold iR; omega) (by decide) ?_
      refine i_aload_n rfl rfl ?_
      refine i_getr rfl rfl rfl rfl (by decide) rfl ?_
      refine i_iconst (n := 0) rfl (by unfold iR; omega) ?_
      refine i_iald rfl rfl (by first | omega | assumption) (by first | omega | assumption) (by decide) ?_
      -- at 61
      show irun none zp_153 61 _ (iI (M 43 0) :: _) _ _ 0 0 _
      rw [hc]
      unfold F2 at g
      by_cases e1 : k < 1 + 7 * c
      · by_cases e2 : 0 < m
        · rw [if_pos ⟨e1, e2⟩] at g
          refine i_imul rfl (by unfold iR; omega) ?_
          refine i_iadd rfl (by unfold iR; omega) ?_
          refine i_icmp_ge_f rfl (by first | omega | assumption) ?_
          refine i_iload rfl rfl ?_
          refine i_if_le_f rfl (by first | omega | assumption) ?_
          refine i_aload_n rfl rfl ?_
          refine i_getr rfl rfl rfl rfl (by decide) rfl ?_
          refine i_iload rfl rfl ?_
          refine i_iald rfl rfl (by first | omega | assumption) (by first | omega | assumption) (by decide) ?_
          -- at 78
          rw [show (k : Int).toNat = k by omega]
          show irun none zp_153 78 _ (iI (M 43 k) :: _) _ _ 0 0 _
          refine i_goto rfl ?_
          refine i_iast rfl rfl (by first | omega | assumption) (by first | omega | assumption) ?_
          refine i_iinc rfl rfl (by unfold iR; omega) (Nat.le_of_ble_eq_true rfl) rfl ?_
          refine i_goto rfl ?_
          -- at 36
          rw [show (k : Int).toNat = k by omega]
          exact g
        · rw [if_neg (fun z => e2 z.2)] at g
          refine i_imul rfl (by unfold iR; omega) ?_
          refine i_iadd rfl (by unfold iR; omega) ?_
          refine i_icmp_ge_f rfl (by first | omega | assumption) ?_
          refine i_iload rfl rfl ?_
          refine i_if_le_t rfl (by first | omega | assumption) ?_
          refine i_iconst (n := 0) rfl (by unfold iR; omega) ?_
          refine i_iast rfl rfl (by first | omega | assumption) (by first | omega | assumption) ?_
          refine i_iinc rfl rfl (by unfold iR; omega) (Nat.le_of_ble_eq_true rfl) rfl ?_
          refine i_goto rfl ?_
          -- at 36
          rw [show (k : Int).toNat = k by omega]
          exact g
      · rw [if_neg (fun z => e1 z.1)] at g
        refine i_imul rfl (by unfold iR; omega) ?_
        refine i_iadd rfl (by unfold iR; omega) ?_
        refine i_icmp_ge_t rfl (by first | omega | assumption) ?_
        refine i_iconst (n := 0) rfl (by unfold iR; omega) ?_
        refine i_iast rfl rfl (by first | omega | assumption) (by first | omega | assumption) ?_
        refine i_iinc rfl rfl (by unfold iR; omega) (Nat.le_of_ble_eq_true rfl) rfl ?_
        refine i_goto rfl ?_
        -- at 36
        rw [show (k : Int).toNat = k by omega]
        exact g
  have l := loop 128 0 (by omega)
  rw [fill_0] at l
  exact l
set_option maxRecDepth 100000 in
theorem d_fill3 {b : Bool} {M : iM} {x1 x2 x3 m x5 x6 : Int} : ∀ q, irun none zp_153 212 [some (iP 40), some (iI x1), some (iI x2), some (iI x3), some (iI m), some (iI x5), some (iI x6), some (iI ((11 : Nat) : Int)), none] [] (SH b) (va_up M 50 (fun j => if j < 11 then F3 x6 x3 m j else M 50 j)) 0 0 q → irun none zp_153 138 [some (iP 40), some (iI x1), some (iI x2), some (iI x3), some (iI m), some (iI x5), some (iI x6), some (iI 0), none] [] (SH b) M 0 0 q := by
  intro q hq
  have loop : ∀ (d k : Nat), k + d = 11 → irun none zp_153 138 [some (iP 40), some (iI x1), some (iI x2), some (iI x3), some (iI m), some (iI x5), some (iI x6), some (iI (k : Int)), none] [] (SH b) (va_up M 50 (fun j => if j < k then F3 x6 x3 m j else M 50 j)) 0 0 q := by
    intro d
    induction d with
    | zero =>
      intro k hk
      obtain rfl : k = 11 := by omega
      refine i_iload rfl rfl ?_
      refine i_bipush (n := 11) rfl (by unfold iR; omega) (by decide) ?_
      refine i_icmp_ge_t rfl (by first | omega | assumption) ?_
      -- at 212
      exact hq
    | succ d ih =>
      intro k hk
      have g := ih (k + 1) (by omega)
      rw [← fill_s] at g
      unfold F3 at g
      by_cases e0 : k = 0
      · rw [if_pos e0] at g
        refine i_iload rfl rfl ?_
        refine i_bipush (n := 11) rfl (by unfold iR; omega) (by decide) ?_
        refine i_icmp_ge_f rfl (by first | omega | assumption) ?_
        refine i_aload_n rfl rfl ?_
        refine i_getr rfl rfl rfl rfl (by decide) rfl ?_
        refine i_iload rfl rfl ?_
        refine i_iload rfl rfl ?_
        refine i_if_ne_f rfl (by first | omega | assumption) ?_
        refine i_bipush (n := 83) rfl (by unfold iR; omega) (by decide) ?_
        refine i_goto rfl ?_
        refine i_iast rfl rfl (by first | omega | assumption) (by first | omega | assumption) ?_
        refine i_iinc rfl rfl (by unfold iR; omega) (Nat.le_of_ble_eq_true rfl) rfl ?_
        refine i_goto rfl ?_
        -- at 138
        rw [show (k : Int).toNat = k by omega]
        exact g
      · rw [if_neg e0] at g
        by_cases e1 : k = 1
        · rw [if_pos e1] at g
          refine i_iload rfl rfl ?_
          refine i_bipush (n := 11) rfl (by unfold iR; omega) (by decide) ?_
          refine i_icmp_ge_f rfl (by first | omega | assumption) ?_
          refine i_aload_n rfl rfl ?_
          refine i_getr rfl rfl rfl rfl (by decide) rfl ?_
          refine i_iload rfl rfl ?_
          refine i_iload rfl rfl ?_
          refine i_if_ne_t rfl (by first | omega | assumption) ?_
          refine i_iload rfl rfl ?_
          refine i_iconst (n := 1) rfl (by unfold iR; omega) ?_
          refine i_icmp_ne_f rfl (by first | omega | assumption) ?_
          refine i_bipush (n := 65) rfl (by unfold iR; omega) (by decide) ?_
          refine i_goto rfl ?_
          refine i_iast rfl rfl (by first | omega | assumption) (by first | omega | assumption) ?_
          refine i_iinc rfl rfl (by unfold iR; omega) (Nat.le_of_ble_eq_true rfl) rfl ?_
          refine i_goto rfl ?_
          -- at 138
          rw [show (k : Int).toNat = k by omega]
          exact g
        · rw [if_neg e1] at g
          by_cases e2 : k = 2
          · rw [if_pos e2] at g
            refine i_iload rfl rfl ?_
            refine i_bipush (n := 11) rfl (by unfold iR; omega) (by decide) ?_
            refine i_icmp_ge_f rfl (by first | omega | assumption) ?_
            refine i_aload_n rfl rfl ?_
            refine i_getr rfl rfl rfl rfl (by decide) rfl ?_
            refine i_iload rfl rfl ?_
            refine i_iload rfl rfl ?_
            refine i_if_ne_t rfl (by first | omega | assumption) ?_
            refine i_iload rfl rfl ?_
            refine i_iconst (n := 1) rfl (by unfold iR; omega) ?_
            refine i_icmp_ne_t rfl (by first | omega | assumption) ?_
            refine i_iload rfl rfl ?_
            refine i_iconst (n := 2) rfl (by unfold iR; omega) ?_
            refine i_icmp_ne_f rfl (by first | omega | assumption) ?_
            refine i_iload rfl rfl ?_
            refine i_goto rfl ?_
            refine i_iast rfl rfl (by first | omega | assumption) (by first | omega | assumption) ?_
            refine i_iinc rfl rfl (by unfold iR; omega) (Nat.le_of_ble_eq_true rfl) rfl ?_
            refine i_goto rfl ?_
            -- at 138
            rw [show (k : Int).toNat = k by omega]
            exact g
          · rw [if_neg e2] at g
            by_cases e3 : k = 3
            · rw [if_pos e3] at g
              refine i_iload rfl rfl ?_
              refine i_bipush (n := 11) rfl (by unfold iR; omega) (by decide) ?_
              refine i_icmp_ge_f rfl (by first | omega | assumption) ?_
              refine i_aload_n rfl rfl ?_
              refine i_getr rfl rfl rfl rfl (by decide) rfl ?_
              refine i_iload rfl rfl ?_
              refine i_iload rfl rfl ?_
              refine i_if_ne_t rfl (by first | omega | assumption) ?_
              refine i_iload rfl rfl ?_
              refine i_iconst (n := 1) rfl (by unfold iR; omega) ?_
              refine i_icmp_ne_t rfl (by first | omega | assumption) ?_
              refine i_iload rfl rfl ?_
              refine i_iconst (n := 2) rfl (by unfold iR; omega) ?_
              refine i_icmp_ne_t rfl (by first | omega | assumption) ?_
              refine i_iload rfl rfl ?_
              refine i_iconst (n := 3) rfl (by unfold iR; omega) ?_
              refine i_icmp_ne_f rfl (by first | omega | assumption) ?_
              refine i_iload_n rfl rfl ?_
              refine i_goto rfl ?_
              refine i_iast rfl rfl (by first | omega | assumption) (by first | omega | assumption) ?_
              refine i_iinc rfl rfl (by unfold iR; omega) (Nat.le_of_ble_eq_true rfl) rfl ?_
              refine i_goto rfl ?_
              -- at 138
              rw [show (k : Int).toNat = k by omega]
              exact g
            · rw [if_neg e3] at g
              by_cases e4 : k = 4
              · rw [if_pos e4] at g
                refine i_iload rfl rfl ?_
                refine i_bipush (n := 11) rfl (by unfold iR; omega) (by decide) ?_
                refine i_icmp_ge_f rfl (by first | omega | assumption) ?_
                refine i_aload_n rfl rfl ?_
                refine i_getr rfl rfl rfl rfl (by decide) rfl ?_
                refine i_iload rfl rfl ?_
                refine i_iload rfl rfl ?_
                refine i_if_ne_t rfl (by first | omega | assumption) ?_
                refine i_iload rfl rfl ?_
                refine i_iconst (n := 1) rfl (by unfold iR; omega) ?_
                refine i_icmp_ne_t rfl (by first | omega | assumption) ?_
                refine i_iload rfl rfl ?_
                refine i_iconst (n := 2) rfl (by unfold iR; omega) ?_
                refine i_icmp_ne_t rfl (by first | omega | assumption) ?_
                refine i_iload rfl rfl ?_
                refine i_iconst (n := 3) rfl (by unfold iR; omega) ?_
                refine i_icmp_ne_t rfl (by first | omega | assumption) ?_
                refine i_iload rfl rfl ?_
                refine i_iconst (n := 4) rfl (by unfold iR; omega) ?_
                refine i_icmp_ne_f rfl (by first | omega | assumption) ?_
                refine i_iload rfl rfl ?_
                refine i_goto rfl ?_
                refine i_iast rfl rfl (by first | omega | assumption) (by first | omega | assumption) ?_
                refine i_iinc rfl rfl (by unfold iR; omega) (Nat.le_of_ble_eq_true rfl) rfl ?_
                refine i_goto rfl ?_
                -- at 138
                rw [show (k : Int).toNat = k by omega]
                exact g
              · rw [if_neg e4] at g
                refine i_iload rfl rfl ?_
                refine i_bipush (n := 11) rfl (by unfold iR; omega) (by decide) ?_
                refine i_icmp_ge_f rfl (by first | omega | assumption) ?_
                refine i_aload_n rfl rfl ?_
                refine i_getr rfl rfl rfl rfl (by decide) rfl ?_
                refine i_iload rfl rfl ?_
                refine i_iload rfl rfl ?_
                refine i_if_ne_t rfl (by first | omega | assumption) ?_
                refine i_iload rfl rfl ?_
                refine i_iconst (n := 1) rfl (by unfold iR; omega) ?_
                refine i_icmp_ne_t rfl (by first | omega | assumption) ?_
                refine i_iload rfl rfl ?_
                refine i_iconst (n := 2) rfl (by unfold iR; omega) ?_
                refine i_icmp_ne_t rfl (by first | omega | assumption) ?_
                refine i_iload rfl rfl ?_
                refine i_iconst (n := 3) rfl (by unfold iR; omega) ?_
                refine i_icmp_ne_t rfl (by first | omega | assumption) ?_
                refine i_iload rfl rfl ?_
                refine i_iconst (n := 4) rfl (by unfold iR; omega) ?_
                refine i_icmp_ne_t rfl (by first | omega | assumption) ?_
                refine i_iconst (n := 0) rfl (by unfold iR; omega) ?_
                refine i_iast rfl rfl (by first | omega | assumption) (by first | omega | assumption) ?_
                refine i_iinc rfl rfl (by unfold iR; omega) (Nat.le_of_ble_eq_true rfl) rfl ?_
                refine i_goto rfl ?_
                -- at 138
                rw [show (k : Int).toNat = k by omega]
                exact g
  have l := loop 11 0 (by omega)
  rw [fill_0] at l
  exact l
set_option maxRecDepth 100000 in
theorem d_end {b : Bool} {M : iM} {c : Nat} {x1 x2 x3 m x5 x6 : Int} {W : Nat → Int} {z : Option iV} (hc : M 43 0 = (c : Int)) (h10 : c ≤ 10) (hw : ∀ j, j < 7 * c → M 43 (1 + j) = W j) (hW : ∀ k, k < c → 0 ≤ W (7 * k) ∧ W (7 * k) ≤ 7) : ∃ M', irun none zp_153 226 [some (iP 40), some (iI x1), some (iI x2), some (iI x3), some (iI m), some (iI x5), some (iI x6), some (iI 11), none] [] (SH b) M 0 0 (some 1, SH b, M') ∧ Fr [40, 42, 44, 49] M M' ∧ (∀ k, k ≠ 6 → k ≠ 7 → k ≠ 8 → k ≠ 9 → k ≠ 13 → k ≠ 14 → k ≠ 15 → M' 40 k = M 40 k) ∧ M' 40 6 = x3 ∧ M' 40 7 = m ∧ M' 40 8 = x6 ∧ M' 40 9 = x5 ∧ M' 40 13 = 0 ∧ M' 40 14 = 0 ∧ M' 40 15 = 0 ∧ (∀ j, j < 80 → M' 42 j = M 43 j) ∧ (∀ k, k < 8 → M' 44 k = bsf (M 44) W c k) ∧ M' 49 = zz (M 49) := by
  generalize eP : i_st (i_st (i_st (i_st M 40 8 x6) 40 6 x3) 40 7 m) 40 9 x5 = P
  have fP : Fr [40] M P := by rw [← eP]; exact Fr_st (Fr_st (Fr_st (Fr_st (Fr_r _ _) (by decide)) (by decide)) (by decide)) (by decide)
  -- the copy
  have cp : ∀ q, irun none zp_153 279 [some (iP 40), some (iI x1), some (iI x2), some (iI x3), some (iI m), some (iI x5), some (iI x6), some (iI ((80 : Nat) : Int)), none] [] (SH b) (va_up P 42 (fun j => if j < 80 then P 43 j else P 42 j)) 0 0 q → irun none zp_153 252 [some (iP 40), some (iI x1), some (iI x2), some (iI x3), some (iI m), some (iI x5), some (iI x6), some (iI 0), none] [] (SH b) P 0 0 q := by
    intro q hq
    have loop : ∀ (d k : Nat), k + d = 80 → irun none zp_153 252 [some (iP 40), some (iI x1), some (iI x2), some (iI x3), some (iI m), some (iI x5), some (iI x6), some (iI (k : Int)), none] [] (SH b) (va_up P 42 (fun j => if j < k then P 43 j else P 42 j)) 0 0 q := by
      intro d
      induction d with
      | zero =>
        intro k hk
        obtain rfl : k = 80 := by omega
        refine i_iload rfl rfl ?_
        refine i_bipush (n := 80) rfl (by unfold iR; omega) (by decide) ?_
        refine i_icmp_ge_t rfl (by first | omega | assumption) ?_
        -- at 279
        exact hq
      | succ d ih =>
        intro k hk
        have g := ih (k + 1) (by omega)
        rw [← fill_s] at g
        refine i_iload rfl rfl ?_
        refine i_bipush (n := 80) rfl (by unfold iR; omega) (by decide) ?_
        refine i_icmp_ge_f rfl (by first | omega | assumption) ?_
        refine i_aload_n rfl rfl ?_
        refine i_getr rfl rfl rfl rfl (by decide) rfl ?_
        refine i_iload rfl rfl ?_
        refine i_aload_n rfl rfl ?_
        refine i_getr rfl rfl rfl rfl (by decide) rfl ?_
        refine i_iload rfl rfl ?_
        refine i_iald rfl rfl (by first | omega | assumption) (by first | omega | assumption) (by decide) ?_
        -- at 272
        rw [show (k : Int).toNat = k by omega]
        show irun none zp_153 272 _ (iI (P 43 k) :: _) _ _ 0 0 _
        refine i_iast rfl rfl (by first | omega | assumption) (by first | omega | assumption) ?_
        refine i_iinc rfl rfl (by unfold iR; omega) (Nat.le_of_ble_eq_true rfl) rfl ?_
        refine i_goto rfl ?_
        -- at 252
        rw [show (k : Int).toNat = k by omega]
        exact g
    have l := loop 80 0 (by omega)
    rw [fill_0] at l
    exact l
  have f43 : P 43 = M 43 := fP 43 (by decide)
  generalize eR : va_up P 42 (fun j => if j < 80 then P 43 j else P 42 j) = R at cp
  have r42 : ∀ j, j < 80 → R 42 j = M 43 j := by
    intro j hj
    rw [← eR, up_s, if_pos hj, f43]
  have fR : Fr [40, 42] M R := by
    rw [← eR]
    exact Fr_up (Fr_t (Fr_r _ _) fP (by decide)) (by decide)
  have r40 : R 40 = P 40 := by rw [← eR]; rfl
  -- the best
  have best : ∀ (d k : Nat) (R1 : iM) (z : Option iV), k + d = c → Fr [44] R R1 → (∀ j, j < 8 → R1 44 j = bsf (M 44) W k j) → ∃ R2 z', (∀ q, irun none zp_153 368 [some (iP 40), some (iI x1), some (iI x2), some (iI x3), some (iI m), some (iI x5), some (iI x6), some (iI (c : Int)), z'] [] (SH b) R2 0 0 q → irun none zp_153 282 [some (iP 40), some (iI x1), some (iI x2), some (iI x3), some (iI m), some (iI x5), some (iI x6), some (iI (k : Int)), z] [] (SH b) R1 0 0 q) ∧ Fr [44] R R2 ∧ ∀ j, j < 8 → R2 44 j = bsf (M 44) W c j := by
    intro d
    induction d with
    | zero =>
      intro k R1 z hk fr h
      obtain rfl : k = c := by omega
      have c1 : R1 42 0 = (k : Int) := by rw [fr 42 (by decide), r42 0 (by omega)]; exact hc
      refine ⟨R1, z, fun q hq => ?_, fr, h⟩
      refine i_iload rfl rfl ?_
      refine i_aload_n rfl rfl ?_
      refine i_getr rfl rfl rfl rfl (by decide) rfl ?_
      refine i_iconst (n := 0) rfl (by unfold iR; omega) ?_
      refine i_iald rfl rfl (by first | omega | assumption) (by first | omega | assumption) (by decide) ?_
      -- at 290
      show irun none zp_153 290 _ (iI (R1 42 0) :: _) _ _ 0 0 _
      rw [c1]
      refine i_icmp_ge_t rfl (by first | omega | assumption) ?_
      -- at 368
      exact hq
    | succ d ih =>
      intro k R1 z hk fr h
      have c1 : R1 42 0 = (c : Int) := by rw [fr 42 (by decide), r42 0 (by omega)]; exact hc
      have w0 : R1 42 (1 + 7 * k) = W (7 * k) := by rw [fr 42 (by decide), r42 _ (by omega)]; exact hw _ (by omega)
      have w1 : R1 42 (1 + 7 * k + 1) = W (7 * k + 1) := by rw [fr 42 (by decide), r42 _ (by omega)]; exact hw (7 * k + 1) (by omega)
      have hWk := hW k (by omega)
      obtain ⟨u, eu⟩ := Int.eq_ofNat_of_zero_le hWk.1
      have hu := h u (by omega)
      have eb : bsf (M 44) W (k + 1) = va_up (bsf (M 44) W k) u (if bsf (M 44) W k u < W (7 * k + 1) then W (7 * k + 1) else bsf (M 44) W k u) := by
        show va_up (bsf (M 44) W k) (W (7 * k)).toNat _ = _
        rw [show (W (7 * k)).toNat = u by omega]
      obtain ⟨R2, z', k1, k2⟩ := ih (k + 1) (i_st R1 44 u (if bsf (M 44) W k u < W (7 * k + 1) then W (7 * k + 1) else bsf (M 44) W k u)) (some (iI (1 + 7 * (k : Int)))) (by omega) (Fr_st fr (by decide)) (fun j hj => by
        rw [eb]
        show va_up (R1 44) u _ j = _
        by_cases e : j = u
        · rw [e, up_s, up_s]
        · rw [up_n e, up_n e]; exact h j hj)
      refine ⟨R2, z', fun q hq => ?_, k2⟩
      have k1 := k1 q hq
      refine i_iload rfl rfl ?_
      refine i_aload_n rfl rfl ?_
      refine i_getr rfl rfl rfl rfl (by decide) rfl ?_
      refine i_iconst (n := 0) rfl (by unfold iR; omega) ?_
      refine i_iald rfl rfl (by first | omega | assumption) (by first | omega | assumption) (by decide) ?_
      -- at 290
      show irun none zp_153 290 _ (iI (R1 42 0) :: _) _ _ 0 0 _
      rw [c1]
      refine i_icmp_ge_f rfl (by first | omega | assumption) ?_
      refine i_iconst (n := 1) rfl (by unfold iR; omega) ?_
      refine i_bipush (n := 7) rfl (by unfold iR; omega) (by decide) ?_
      refine i_iload rfl rfl ?_
      refine i_imul rfl (by unfold iR; omega) ?_
      refine i_iadd rfl (by unfold iR; omega) ?_
      refine i_istore rfl (Nat.le_of_ble_eq_true rfl) rfl ?_
      refine i_aload_n rfl rfl ?_
      refine i_getr rfl rfl rfl rfl (by decide) rfl ?_
      refine i_aload_n rfl rfl ?_
      refine i_getr rfl rfl rfl rfl (by decide) rfl ?_
      refine i_iload rfl rfl ?_
      refine i_iald rfl rfl (by first | omega | assumption) (by first | omega | assumption) (by decide) ?_
      -- at 313
      rw [show (1 + 7 * (k : Int)).toNat = 1 + 7 * k by omega, w0, eu]
      refine i_aload_n rfl rfl ?_
      refine i_getr rfl rfl rfl rfl (by decide) rfl ?_
      refine i_iload rfl rfl ?_
      refine i_iconst (n := 1) rfl (by unfold iR; omega) ?_
      refine i_iadd rfl (by unfold iR; omega) ?_
      refine i_iald rfl rfl (by first | omega | assumption) (by first | omega | assumption) (by decide) ?_
      -- at 322
      rw [show (1 + 7 * (k : Int) + 1).toNat = 1 + 7 * k + 1 by omega, w1]
      refine i_aload_n rfl rfl ?_
      refine i_getr rfl rfl rfl rfl (by decide) rfl ?_
      refine i_aload_n rfl rfl ?_
      refine i_getr rfl rfl rfl rfl (by decide) rfl ?_
      refine i_iload rfl rfl ?_
      refine i_iald rfl rfl (by first | omega | assumption) (by first | omega | assumption) (by decide) ?_
      -- at 333
      rw [show (1 + 7 * (k : Int)).toNat = 1 + 7 * k by omega, w0, eu]
      refine i_iald rfl rfl (by first | omega | assumption) (by first | omega | assumption) (by decide) ?_
      -- at 334
      rw [show (u : Int).toNat = u by omega, hu]
      by_cases e : bsf (M 44) W k u < W (7 * k + 1)
      · rw [if_pos e] at k1
        refine i_icmp_le_f rfl (by first | omega | assumption) ?_
        refine i_aload_n rfl rfl ?_
        refine i_getr rfl rfl rfl rfl (by decide) rfl ?_
        refine i_iload rfl rfl ?_
        refine i_iconst (n := 1) rfl (by unfold iR; omega) ?_
        refine i_iadd rfl (by unfold iR; omega) ?_
        refine i_iald rfl rfl (by first | omega | assumption) (by first | omega | assumption) (by decide) ?_
        -- at 346
        rw [show (1 + 7 * (k : Int) + 1).toNat = 1 + 7 * k + 1 by omega, w1]
        refine i_goto rfl ?_
        refine i_iast rfl rfl (by first | omega | assumption) (by first | omega | assumption) ?_
        refine i_iinc rfl rfl (by unfold iR; omega) (Nat.le_of_ble_eq_true rfl) rfl ?_
        refine i_goto rfl ?_
        -- at 282
        rw [show (u : Int).toNat = u by omega]
        exact k1
      · rw [if_neg e] at k1
        refine i_icmp_le_t rfl (by first | omega | assumption) ?_
        refine i_aload_n rfl rfl ?_
        refine i_getr rfl rfl rfl rfl (by decide) rfl ?_
        refine i_aload_n rfl rfl ?_
        refine i_getr rfl rfl rfl rfl (by decide) rfl ?_
        refine i_iload rfl rfl ?_
        refine i_iald rfl rfl (by first | omega | assumption) (by first | omega | assumption) (by decide) ?_
        -- at 360
        rw [show (1 + 7 * (k : Int)).toNat = 1 + 7 * k by omega, w0, eu]
        refine i_iald rfl rfl (by first | omega | assumption) (by first | omega | assumption) (by decide) ?_
        -- at 361
        rw [show (u : Int).toNat = u by omega, hu]
        refine i_iast rfl rfl (by first | omega | assumption) (by first | omega | assumption) ?_
        refine i_iinc rfl rfl (by unfold iR; omega) (Nat.le_of_ble_eq_true rfl) rfl ?_
        refine i_goto rfl ?_
        -- at 282
        rw [show (u : Int).toNat = u by omega]
        exact k1
  obtain ⟨R2, z', k1, k2, k3⟩ := best c 0 R none (by omega) (Fr_r _ _) (fun j hj => by rw [fR 44 (by decide)]; rfl)
  have cl := d_clear (b := b) (M := R2)
  have e40 : R2 40 = P 40 := by rw [k2 40 (by decide), r40]
  refine ⟨va_up (va_up R2 40 (va_up (va_up (va_up (R2 40) 13 0) 14 0) 15 0)) 49 (zz (R2 49)), ?_, Fr_up (Fr_up (Fr_t (Fr_t (Fr_r _ _) fR (by decide)) k2 (by decide)) (by decide)) (by decide), ?_, ?_, ?_, ?_, ?_, rfl, rfl, rfl, ?_, ?_, ?_⟩
  rotate_left
  · intro k a1 a2 a3 a4 a5 a6 a7
    show va_up (va_up (va_up (R2 40) 13 0) 14 0) 15 0 k = _
    rw [up_n a7, up_n a6, up_n a5, e40, ← eP]
    show va_up (va_up (va_up (va_up (M 40) 8 x6) 6 x3) 7 m) 9 x5 k = _
    rw [up_n a4, up_n a2, up_n a1, up_n a3]
  · show R2 40 6 = _
    rw [e40, ← eP]
    rfl
  · show R2 40 7 = _
    rw [e40, ← eP]
    rfl
  · show R2 40 8 = _
    rw [e40, ← eP]
    rfl
  · show R2 40 9 = _
    rw [e40, ← eP]
    rfl
  · intro j hj
    show R2 42 j = _
    rw [k2 42 (by decide)]
    exact r42 j hj
  · exact k3
  · show zz (R2 49) = _
    rw [k2 49 (by decide), fR 49 (by decide)]
  · refine i_aload_n rfl rfl ?_
    refine i_iload rfl rfl ?_
    refine i_puti rfl rfl rfl rfl ?_
    refine i_aload_n rfl rfl ?_
    refine i_iload_n rfl rfl ?_
    refine i_puti rfl rfl rfl rfl ?_
    refine i_aload_n rfl rfl ?_
    refine i_iload rfl rfl ?_
    refine i_puti rfl rfl rfl rfl ?_
    refine i_aload_n rfl rfl ?_
    refine i_iload rfl rfl ?_
    refine i_puti rfl rfl rfl rfl ?_
    refine i_iconst (n := 0) rfl (by unfold iR; omega) ?_
    refine i_istore rfl (Nat.le_of_ble_eq_true rfl) rfl ?_
    -- at 252
    rw [eP]
    refine cp _ ?_
    refine i_iconst (n := 0) rfl (by unfold iR; omega) ?_
    refine i_istore rfl (Nat.le_of_ble_eq_true rfl) rfl ?_
    -- at 282
    refine k1 _ ?_
    refine i_aload_n rfl rfl ?_
    -- at 369
    refine i_call (T := (143, zp_143)) rfl rfl (cl) rfl rfl rfl rfl rfl rfl rfl ?_
    try dsimp only
    refine i_iconst (n := 1) rfl (by unfold iR; omega) ?_
    -- at 373
    exact i_zreturn rfl rfl (by first | omega | assumption)
