set_option maxRecDepth 100000 in
theorem d_used {b : Bool} {M : iM} {c : Nat} {s : Int} {W : Nat → Int} (hc : M 42 0 = (c : Int)) (h10 : c ≤ 10) (hs : 0 ≤ s ∧ s ≤ 1000) (h3 : 0 ≤ M 40 6 ∧ M 40 6 ≤ 1000) (h4 : 0 ≤ M 40 7 ∧ M 40 7 ≤ 1000) (hw : ∀ j, j < 7 * c → M 42 (1 + j) = W j) (hW : ∀ k, k < c → (0 ≤ W (7 * k + 2) ∧ W (7 * k + 2) ≤ 1000) ∧ 0 ≤ W (7 * k + 3) ∧ W (7 * k + 3) ≤ 1000) : irun none zp_149 0 (i_ent [iP 40, iI s] 5) [] (SH b) M 0 0 (some (bz (oU (M 40 6) (M 40 7) c W s)), SH b, M) := by
  have loop : ∀ (d k : Nat) (x : Option iV), k + d = c → irun none zp_149 29 [some (iP 40), some (iI s), some (iI (bz (oU (M 40 6) (M 40 7) k W s))), some (iI (k : Int)), x] [] (SH b) M 0 0 (some (bz (oU (M 40 6) (M 40 7) c W s)), SH b, M) := by
    intro d
    induction d with
    | zero =>
      intro k x hk
      obtain rfl : k = c := by omega
      have b01 : bz (oU (M 40 6) (M 40 7) k W s) = 0 ∨ bz (oU (M 40 6) (M 40 7) k W s) = 1 := by
        by_cases q : oU (M 40 6) (M 40 7) k W s
        · rw [bz_t q]; exact Or.inr rfl
        · rw [bz_f q]; exact Or.inl rfl
      refine i_iload_n rfl rfl ?_
      refine i_aload_n rfl rfl ?_
      refine i_getr rfl rfl rfl rfl (by decide) rfl ?_
      refine i_iconst (n := 0) rfl (by unfold iR; omega) ?_
      refine i_iald rfl rfl (by first | omega | assumption) (by first | omega | assumption) (by decide) ?_
      -- at 36
      show irun none zp_149 36 _ (iI (M 42 0) :: _) _ _ 0 0 _
      rw [hc]
      refine i_icmp_ge_t rfl (by first | omega | assumption) ?_
      refine i_iload_n rfl rfl ?_
      -- at 93
      exact i_zreturn rfl rfl (by first | omega | assumption)
    | succ d ih =>
      intro k x hk
      have g := ih (k + 1) (some (iI (W (7 * k + 2)))) (by omega)
      have w2 := hw (7 * k + 2) (by omega)
      have w3 := hw (7 * k + 3) (by omega)
      have hk2 := hW k (by omega)
      refine i_iload_n rfl rfl ?_
      refine i_aload_n rfl rfl ?_
      refine i_getr rfl rfl rfl rfl (by decide) rfl ?_
      refine i_iconst (n := 0) rfl (by unfold iR; omega) ?_
      refine i_iald rfl rfl (by first | omega | assumption) (by first | omega | assumption) (by decide) ?_
      -- at 36
      show irun none zp_149 36 _ (iI (M 42 0) :: _) _ _ 0 0 _
      rw [hc]
      refine i_icmp_ge_f rfl (by first | omega | assumption) ?_
      refine i_aload_n rfl rfl ?_
      refine i_getr rfl rfl rfl rfl (by decide) rfl ?_
      refine i_iconst (n := 3) rfl (by unfold iR; omega) ?_
      refine i_bipush (n := 7) rfl (by unfold iR; omega) (by decide) ?_
      refine i_iload_n rfl rfl ?_
      refine i_imul rfl (by unfold iR; omega) ?_
      refine i_iadd rfl (by unfold iR; omega) ?_
      refine i_iald rfl rfl (by first | omega | assumption) (by first | omega | assumption) (by decide) ?_
      -- at 50
      rw [show ((3 : Int) + 7 * (k : Int)).toNat = 1 + (7 * k + 2) by omega, w2]
      by_cases q : oU (M 40 6) (M 40 7) k W s
      · rw [bz_t (show oU (M 40 6) (M 40 7) (k + 1) W s from q.elim Or.inl (fun ⟨j, j1, j2⟩ => Or.inr ⟨j, by omega, j2⟩))] at g
        rw [bz_t q]
        refine i_istore rfl (Nat.le_of_ble_eq_true rfl) rfl ?_
        refine i_iload_n rfl rfl ?_
        refine i_if_ne_t rfl (by first | omega | assumption) ?_
        refine i_iconst (n := 1) rfl (by unfold iR; omega) ?_
        refine i_goto rfl ?_
        refine i_istore_n rfl (Nat.le_of_ble_eq_true rfl) rfl ?_
        refine i_iinc rfl rfl (by unfold iR; omega) (Nat.le_of_ble_eq_true rfl) rfl ?_
        refine i_goto rfl ?_
        -- at 29
        exact g
      · rw [bz_f q]
        by_cases r : W (7 * k + 2) ≤ s ∧ s < W (7 * k + 2) + W (7 * k + 3)
        · rw [bz_t (show oU (M 40 6) (M 40 7) (k + 1) W s from Or.inr ⟨k, by omega, r⟩)] at g
          refine i_istore rfl (Nat.le_of_ble_eq_true rfl) rfl ?_
          refine i_iload_n rfl rfl ?_
          refine i_if_ne_f rfl (by first | omega | assumption) ?_
          refine i_iload_n rfl rfl ?_
          refine i_iload rfl rfl ?_
          refine i_icmp_lt_f rfl (by first | omega | assumption) ?_
          refine i_iload_n rfl rfl ?_
          refine i_iload rfl rfl ?_
          refine i_aload_n rfl rfl ?_
          refine i_getr rfl rfl rfl rfl (by decide) rfl ?_
          refine i_iconst (n := 4) rfl (by unfold iR; omega) ?_
          refine i_bipush (n := 7) rfl (by unfold iR; omega) (by decide) ?_
          refine i_iload_n rfl rfl ?_
          refine i_imul rfl (by unfold iR; omega) ?_
          refine i_iadd rfl (by unfold iR; omega) ?_
          refine i_iald rfl rfl (by first | omega | assumption) (by first | omega | assumption) (by decide) ?_
          -- at 76
          rw [show ((4 : Int) + 7 * (k : Int)).toNat = 1 + (7 * k + 3) by omega, w3]
          refine i_iadd rfl (by unfold iR; omega) ?_
          refine i_icmp_ge_f rfl (by first | omega | assumption) ?_
          refine i_iconst (n := 1) rfl (by unfold iR; omega) ?_
          refine i_goto rfl ?_
          refine i_istore_n rfl (Nat.le_of_ble_eq_true rfl) rfl ?_
          refine i_iinc rfl rfl (by unfold iR; omega) (Nat.le_of_ble_eq_true rfl) rfl ?_
          refine i_goto rfl ?_
          -- at 29
          exact g
        · rw [bz_f (show ¬ oU (M 40 6) (M 40 7) (k + 1) W s from fun z => z.elim (fun z => q (Or.inl z)) (fun ⟨j, j1, j2⟩ => by
            by_cases e : j = k
            · rw [e] at j2; exact r j2
            · exact q (Or.inr ⟨j, by omega, j2⟩)))] at g
          by_cases r1 : s < W (7 * k + 2)
          · refine i_istore rfl (Nat.le_of_ble_eq_true rfl) rfl ?_
            refine i_iload_n rfl rfl ?_
            refine i_if_ne_f rfl (by first | omega | assumption) ?_
            refine i_iload_n rfl rfl ?_
            refine i_iload rfl rfl ?_
            refine i_icmp_lt_t rfl (by first | omega | assumption) ?_
            refine i_iconst (n := 0) rfl (by unfold iR; omega) ?_
            refine i_istore_n rfl (Nat.le_of_ble_eq_true rfl) rfl ?_
            refine i_iinc rfl rfl (by unfold iR; omega) (Nat.le_of_ble_eq_true rfl) rfl ?_
            refine i_goto rfl ?_
            -- at 29
            exact g
          · refine i_istore rfl (Nat.le_of_ble_eq_true rfl) rfl ?_
            refine i_iload_n rfl rfl ?_
            refine i_if_ne_f rfl (by first | omega | assumption) ?_
            refine i_iload_n rfl rfl ?_
            refine i_iload rfl rfl ?_
            refine i_icmp_lt_f rfl (by first | omega | assumption) ?_
            refine i_iload_n rfl rfl ?_
            refine i_iload rfl rfl ?_
            refine i_aload_n rfl rfl ?_
            refine i_getr rfl rfl rfl rfl (by decide) rfl ?_
            refine i_iconst (n := 4) rfl (by unfold iR; omega) ?_
            refine i_bipush (n := 7) rfl (by unfold iR; omega) (by decide) ?_
            refine i_iload_n rfl rfl ?_
            refine i_imul rfl (by unfold iR; omega) ?_
            refine i_iadd rfl (by unfold iR; omega) ?_
            refine i_iald rfl rfl (by first | omega | assumption) (by first | omega | assumption) (by decide) ?_
            -- at 76
            rw [show ((4 : Int) + 7 * (k : Int)).toNat = 1 + (7 * k + 3) by omega, w3]
            refine i_iadd rfl (by unfold iR; omega) ?_
            refine i_icmp_ge_t rfl (by first | omega | assumption) ?_
            refine i_iconst (n := 0) rfl (by unfold iR; omega) ?_
            refine i_istore_n rfl (Nat.le_of_ble_eq_true rfl) rfl ?_
            refine i_iinc rfl rfl (by unfold iR; omega) (Nat.le_of_ble_eq_true rfl) rfl ?_
            refine i_goto rfl ?_
            -- at 29
            exact g
  have l := loop c 0 none (by omega)
  by_cases r : M 40 6 ≤ s ∧ s < M 40 6 + M 40 7
  · rw [bz_t (show oU (M 40 6) (M 40 7) 0 W s from Or.inl r)] at l
    refine i_iload_n rfl rfl ?_
    refine i_aload_n rfl rfl ?_
    refine i_getf rfl rfl rfl rfl (by decide) ?_
    refine i_icmp_lt_f rfl (by first | omega | assumption) ?_
    refine i_iload_n rfl rfl ?_
    refine i_aload_n rfl rfl ?_
    refine i_getf rfl rfl rfl rfl (by decide) ?_
    refine i_aload_n rfl rfl ?_
    refine i_getf rfl rfl rfl rfl (by decide) ?_
    refine i_iadd rfl (by unfold iR; omega) ?_
    refine i_icmp_ge_f rfl (by first | omega | assumption) ?_
    refine i_iconst (n := 1) rfl (by unfold iR; omega) ?_
    refine i_goto rfl ?_
    refine i_istore_n rfl (Nat.le_of_ble_eq_true rfl) rfl ?_
    refine i_iconst (n := 0) rfl (by unfold iR; omega) ?_
    refine i_istore_n rfl (Nat.le_of_ble_eq_true rfl) rfl ?_
    -- at 29
    exact l
  · rw [bz_f (show ¬ oU (M 40 6) (M 40 7) 0 W s from fun z => z.elim r (fun ⟨j, j1, _⟩ => by omega))] at l
    by_cases r1 : s < M 40 6
    · refine i_iload_n rfl rfl ?_
      refine i_aload_n rfl rfl ?_
      refine i_getf rfl rfl rfl rfl (by decide) ?_
      refine i_icmp_lt_t rfl (by first | omega | assumption) ?_
      refine i_iconst (n := 0) rfl (by unfold iR; omega) ?_
      refine i_istore_n rfl (Nat.le_of_ble_eq_true rfl) rfl ?_
      refine i_iconst (n := 0) rfl (by unfold iR; omega) ?_
      refine i_istore_n rfl (Nat.le_of_ble_eq_true rfl) rfl ?_
      -- at 29
      exact l
    · refine i_iload_n rfl rfl ?_
      refine i_aload_n rfl rfl ?_
      refine i_getf rfl rfl rfl rfl (by decide) ?_
      refine i_icmp_lt_f rfl (by first | omega | assumption) ?_
      refine i_iload_n rfl rfl ?_
      refine i_aload_n rfl rfl ?_
      refine i_getf rfl rfl rfl rfl (by decide) ?_
      refine i_aload_n rfl rfl ?_
      refine i_getf rfl rfl rfl rfl (by decide) ?_
      refine i_iadd rfl (by unfold iR; omega) ?_
      refine i_icmp_ge_t rfl (by first | omega | assumption) ?_
      refine i_iconst (n := 0) rfl (by unfold iR; omega) ?_
      refine i_istore_n rfl (Nat.le_of_ble_eq_true rfl) rfl ?_
      refine i_iconst (n := 0) rfl (by unfold iR; omega) ?_
      refine i_istore_n rfl (Nat.le_of_ble_eq_true rfl) rfl ?_
      -- at 29
      exact l
set_option maxRecDepth 100000 in
theorem d_room {b : Bool} {M : iM} {c : Nat} {n x y : Int} {W : Nat → Int} (hc : M 42 0 = (c : Int)) (h10 : c ≤ 10) (h3 : 0 ≤ M 40 6 ∧ M 40 6 ≤ 1000) (h4 : 0 ≤ M 40 7 ∧ M 40 7 ≤ 1000) (hw : ∀ j, j < 7 * c → M 42 (1 + j) = W j) (hW : ∀ k, k < c → (0 ≤ W (7 * k + 2) ∧ W (7 * k + 2) ≤ 1000) ∧ 0 ≤ W (7 * k + 3) ∧ W (7 * k + 3) ≤ 1000) (hn : 0 ≤ n ∧ n ≤ 1000) : irun none zp_150 0 (i_ent [iP 40, iI n, iI x, iI y] 6) [] (SH b) M 0 0 (some (fpl (fun s => oU (M 40 6) (M 40 7) c W s ∨ (x ≤ s ∧ s < y)) n 46 2 0), SH b, M) := by
  have loop : ∀ (d : Nat) (s r : Int), s + d = 48 → 2 ≤ s → 0 ≤ r → r ≤ s → irun none zp_150 6 [some (iP 40), some (iI n), some (iI x), some (iI y), some (iI r), some (iI s)] [] (SH b) M 0 0 (some (fpl (fun s => oU (M 40 6) (M 40 7) c W s ∨ (x ≤ s ∧ s < y)) n d s r), SH b, M) := by
    intro d
    induction d with
    | zero =>
      intro s r hs h2 h0 hr
      show irun none _ _ _ _ _ _ 0 0 (some (-1), SH b, M)
      refine i_iload rfl rfl ?_
      refine i_bipush (n := 48) rfl (by unfold iR; omega) (by decide) ?_
      refine i_icmp_ge_t rfl (by first | omega | assumption) ?_
      refine i_iconst (n := -1) rfl (by unfold iR; omega) ?_
      -- at 64
      exact i_ireturn rfl rfl
    | succ d ih =>
      intro s r hs h2 h0 hr
      have us := d_used (b := b) (s := s) hc h10 (by omega) h3 h4 hw hW
      have ef : fpl (fun s => oU (M 40 6) (M 40 7) c W s ∨ (x ≤ s ∧ s < y)) n (d + 1) s r = if ur (oU (M 40 6) (M 40 7) c W s ∨ (x ≤ s ∧ s < y)) r = n then s - n + 1 else fpl (fun s => oU (M 40 6) (M 40 7) c W s ∨ (x ≤ s ∧ s < y)) n d (s + 1) (ur (oU (M 40 6) (M 40 7) c W s ∨ (x ≤ s ∧ s < y)) r) := rfl
      rw [ef]
      generalize eR : fpl (fun s => oU (M 40 6) (M 40 7) c W s ∨ (x ≤ s ∧ s < y)) n d (s + 1) = F at *
      have tail : ∀ (r' : Int), 0 ≤ r' → r' ≤ s + 1 → irun none zp_150 44 [some (iP 40), some (iI n), some (iI x), some (iI y), some (iI r'), some (iI s)] [] (SH b) M 0 0 (some (if r' = n then s - n + 1 else F r'), SH b, M) := by
        intro r' h1 h2
        have g := ih (s + 1) r' (by omega) (by omega) h1 h2
        rw [eR] at g
        by_cases e : r' = n
        · rw [if_pos e]
          refine i_iload rfl rfl ?_
          refine i_iload_n rfl rfl ?_
          refine i_icmp_ne_f rfl (by first | omega | assumption) ?_
          refine i_iload rfl rfl ?_
          refine i_iload_n rfl rfl ?_
          refine i_isub rfl (by unfold iR; omega) ?_
          refine i_iconst (n := 1) rfl (by unfold iR; omega) ?_
          refine i_iadd rfl (by unfold iR; omega) ?_
          -- at 56
          exact i_ireturn rfl rfl
        · rw [if_neg e]
          refine i_iload rfl rfl ?_
          refine i_iload_n rfl rfl ?_
          refine i_icmp_ne_t rfl (by first | omega | assumption) ?_
          refine i_iinc rfl rfl (by unfold iR; omega) (Nat.le_of_ble_eq_true rfl) rfl ?_
          refine i_goto rfl ?_
          -- at 6
          exact g
      by_cases q1 : oU (M 40 6) (M 40 7) c W s
      · rw [ur_t (Or.inl q1)]
        rw [bz_t q1] at us
        have t := tail 0 (by omega) (by omega)
        refine i_iload rfl rfl ?_
        refine i_bipush (n := 48) rfl (by unfold iR; omega) (by decide) ?_
        refine i_icmp_ge_f rfl (by first | omega | assumption) ?_
        refine i_aload_n rfl rfl ?_
        refine i_iload rfl rfl ?_
        -- at 16
        refine i_call (T := (149, zp_149)) rfl rfl (us) rfl rfl rfl rfl rfl rfl rfl ?_
        try dsimp only
        show irun none zp_150 19 _ (iI ((1 : Int)) :: _) _ _ 0 0 _
        refine i_if_ne_t rfl (by first | omega | assumption) ?_
        refine i_iconst (n := 0) rfl (by unfold iR; omega) ?_
        refine i_goto rfl ?_
        refine i_istore rfl (Nat.le_of_ble_eq_true rfl) rfl ?_
        -- at 44
        exact t
      · rw [bz_f q1] at us
        by_cases q2 : x ≤ s ∧ s < y
        · rw [ur_t (Or.inr q2)]
          have t := tail 0 (by omega) (by omega)
          refine i_iload rfl rfl ?_
          refine i_bipush (n := 48) rfl (by unfold iR; omega) (by decide) ?_
          refine i_icmp_ge_f rfl (by first | omega | assumption) ?_
          refine i_aload_n rfl rfl ?_
          refine i_iload rfl rfl ?_
          -- at 16
          refine i_call (T := (149, zp_149)) rfl rfl (us) rfl rfl rfl rfl rfl rfl rfl ?_
          try dsimp only
          show irun none zp_150 19 _ (iI ((0 : Int)) :: _) _ _ 0 0 _
          refine i_if_ne_f rfl (by first | omega | assumption) ?_
          refine i_iload rfl rfl ?_
          refine i_iload_n rfl rfl ?_
          refine i_icmp_lt_f rfl (by first | omega | assumption) ?_
          refine i_iload rfl rfl ?_
          refine i_iload_n rfl rfl ?_
          refine i_icmp_ge_f rfl (by first | omega | assumption) ?_
          refine i_iconst (n := 0) rfl (by unfold iR; omega) ?_
          refine i_goto rfl ?_
          refine i_istore rfl (Nat.le_of_ble_eq_true rfl) rfl ?_
          -- at 44
          exact t
        · rw [ur_f (fun q => q.elim q1 q2)]
          have t := tail (r + 1) (by omega) (by omega)
          by_cases q3 : s < x
          · refine i_iload rfl rfl ?_
            refine i_bipush (n := 48) rfl (by unfold iR; omega) (by decide) ?_
            refine i_icmp_ge_f rfl (by first | omega | assumption) ?_
            refine i_aload_n rfl rfl ?_
            refine i_iload rfl rfl ?_
            -- at 16
            refine i_call (T := (149, zp_149)) rfl rfl (us) rfl rfl rfl rfl rfl rfl rfl ?_
            try dsimp only
            show irun none zp_150 19 _ (iI ((0 : Int)) :: _) _ _ 0 0 _
            refine i_if_ne_f rfl (by first | omega | assumption) ?_
            refine i_iload rfl rfl ?_
            refine i_iload_n rfl rfl ?_
            refine i_icmp_lt_t rfl (by first | omega | assumption) ?_
            refine i_iload rfl rfl ?_
            refine i_iconst (n := 1) rfl (by unfold iR; omega) ?_
            refine i_iadd rfl (by unfold iR; omega) ?_
            refine i_istore rfl (Nat.le_of_ble_eq_true rfl) rfl ?_
            -- at 44
            exact t
          · refine i_iload rfl rfl ?_
            refine i_bipush (n := 48) rfl (by unfold iR; omega) (by decide) ?_
            refine i_icmp_ge_f rfl (by first | omega | assumption) ?_
            refine i_aload_n rfl rfl ?_
            refine i_iload rfl rfl ?_
            -- at 16
            refine i_call (T := (149, zp_149)) rfl rfl (us) rfl rfl rfl rfl rfl rfl rfl ?_
            try dsimp only
            show irun none zp_150 19 _ (iI ((0 : Int)) :: _) _ _ 0 0 _
            refine i_if_ne_f rfl (by first | omega | assumption) ?_
            refine i_iload rfl rfl ?_
            refine i_iload_n rfl rfl ?_
            refine i_icmp_lt_f rfl (by first | omega | assumption) ?_
            refine i_iload rfl rfl ?_
            refine i_iload_n rfl rfl ?_
            refine i_icmp_ge_t rfl (by first | omega | assumption) ?_
            refine i_iload rfl rfl ?_
            refine i_iconst (n := 1) rfl (by unfold iR; omega) ?_
            refine i_iadd rfl (by unfold iR; omega) ?_
            refine i_istore rfl (Nat.le_of_ble_eq_true rfl) rfl ?_
            -- at 44
            exact t
  refine i_iconst (n := 0) rfl (by unfold iR; omega) ?_
  refine i_istore rfl (Nat.le_of_ble_eq_true rfl) rfl ?_
  refine i_iconst (n := 2) rfl (by unfold iR; omega) ?_
  refine i_istore rfl (Nat.le_of_ble_eq_true rfl) rfl ?_
  -- at 6
  exact loop 46 2 0 (by omega) (by omega) (by omega) (by omega)
def shf (X : Nat → Int) (p u : Nat) (j : Nat) : Int := if p ≤ j ∧ j < p + u then X (j - 7) else X j
set_option maxRecDepth 100000 in
theorem d_enter {b : Bool} {M : iM} {c : Nat} {W : Nat → Int} {E0 E1 E2 E3 E4 E5 E6 : Int} (hc : M 43 0 = (c : Int)) (h10 : c < 10) (hw : ∀ j, j < 7 * c → M 43 (1 + j) = W j) (hne : ∀ k, k < c → ¬ (W (7 * k) = E0 ∧ W (7 * k + 1) = E1)) : ∃ M', irun none zp_151 0 (i_ent [iP 40, iI E0, iI E1, iI E2, iI E3, iI E4, iI E5, iI E6] 10) [] (SH b) M 0 0 (none, SH b, M') ∧ Fr [43] M M' ∧ M' 43 0 = ((c + 1 : Nat) : Int) ∧ ∀ j, j < 7 * (c + 1) → M' 43 (1 + j) = insW W (ipos W E0 E1 c) (e7 E0 E1 E2 E3 E4 E5 E6) j := by
  have hpb := (ipos_ok (W := W) (a := E0) (v := E1) c).1
  generalize ei : ipos W E0 E1 c = i at hpb ⊢
  have inner : ∀ (M1 : iM) (k : Nat), 1 ≤ k → k ≤ c → ∀ q, irun none zp_151 100 [some (iP 40), some (iI E0), some (iI E1), some (iI E2), some (iI E3), some (iI E4), some (iI E5), some (iI E6), some (iI ((1 + 7 * k : Nat) : Int)), some (iI ((7 : Nat) : Int))] [] (SH b) (va_up M1 43 (shf (M1 43) (1 + 7 * k) 7)) 0 0 q → ∀ (d u : Nat), u + d = 7 → irun none zp_151 64 [some (iP 40), some (iI E0), some (iI E1), some (iI E2), some (iI E3), some (iI E4), some (iI E5), some (iI E6), some (iI ((1 + 7 * k : Nat) : Int)), some (iI (u : Int))] [] (SH b) (va_up M1 43 (shf (M1 43) (1 + 7 * k) u)) 0 0 q := by
    intro M1 k hk1 hk2 q hq d
    induction d with
    | zero =>
      intro u hu
      obtain rfl : u = 7 := by omega
      refine i_iload rfl rfl ?_
      refine i_bipush (n := 7) rfl (by unfold iR; omega) (by decide) ?_
      refine i_icmp_ge_t rfl (by first | omega | assumption) ?_
      -- at 100
      exact hq
    | succ d ih =>
      intro u hu
      have g := ih (u + 1) (by omega)
      have e : i_st (va_up M1 43 (shf (M1 43) (1 + 7 * k) u)) 43 (1 + 7 * k + u) (M1 43 (1 + 7 * k + u - 7)) = va_up M1 43 (shf (M1 43) (1 + 7 * k) (u + 1)) := by
        funext x j
        unfold i_st
        by_cases e1 : x = 43
        · rw [e1, up_s, up_s, up_s]
          unfold shf
          by_cases e2 : j = 1 + 7 * k + u
          · rw [e2, up_s, if_pos (by omega)]
          · rw [up_n e2]
            by_cases e3 : 1 + 7 * k ≤ j ∧ j < 1 + 7 * k + u
            · rw [if_pos e3, if_pos (by omega)]
            · rw [if_neg e3, if_neg (by omega)]
        · rw [up_n e1, up_n e1, up_n e1]
      rw [← e] at g
      refine i_iload rfl rfl ?_
      refine i_bipush (n := 7) rfl (by unfold iR; omega) (by decide) ?_
      refine i_icmp_ge_f rfl (by first | omega | assumption) ?_
      refine i_aload_n rfl rfl ?_
      refine i_getr rfl rfl rfl rfl (by decide) rfl ?_
      refine i_iload rfl rfl ?_
      refine i_iload rfl rfl ?_
      refine i_iadd rfl (by unfold iR; omega) ?_
      refine i_aload_n rfl rfl ?_
      refine i_getr rfl rfl rfl rfl (by decide) rfl ?_
      refine i_iload rfl rfl ?_
      refine i_iload rfl rfl ?_
      refine i_iadd rfl (by unfold iR; omega) ?_
      refine i_bipush (n := 7) rfl (by unfold iR; omega) (by decide) ?_
      refine i_isub rfl (by unfold iR; omega) ?_
      refine i_iald rfl rfl (by first | omega | assumption) (by first | omega | assumption) (by decide) ?_
      -- at 93
      rw [show (((1 + 7 * k : Nat) : Int) + (u : Int) - 7).toNat = 1 + 7 * k + u - 7 by omega]
      show irun none zp_151 93 _ (iI (shf (M1 43) (1 + 7 * k) u (1 + 7 * k + u - 7)) :: _) _ _ 0 0 _
      rw [show shf (M1 43) (1 + 7 * k) u (1 + 7 * k + u - 7) = M1 43 (1 + 7 * k + u - 7) by unfold shf; rw [if_neg (by omega)]]
      refine i_iast rfl rfl (by first | omega | assumption) (by first | omega | assumption) ?_
      refine i_iinc rfl rfl (by unfold iR; omega) (Nat.le_of_ble_eq_true rfl) rfl ?_
      refine i_goto rfl ?_
      -- at 64
      rw [show (((1 + 7 * k : Nat) : Int) + (u : Int)).toNat = 1 + 7 * k + u by omega]
      exact g
  have outer : ∀ (k : Nat) (M1 : iM) (x : Option iV), k ≤ c → ipos W E0 E1 k = i → Fr [43] M M1 → M1 43 0 = (c : Int) → (∀ j, j < 7 * k → M1 43 (1 + j) = W j) → (∀ j, 7 * k ≤ j → j < 7 * c → M1 43 (8 + j) = W j) → ∃ M2 y, (∀ q, irun none zp_151 110 [some (iP 40), some (iI E0), some (iI E1), some (iI E2), some (iI E3), some (iI E4), some (iI E5), some (iI E6), some (iI ((1 + 7 * i : Nat) : Int)), y] [] (SH b) M2 0 0 q → irun none zp_151 13 [some (iP 40), some (iI E0), some (iI E1), some (iI E2), some (iI E3), some (iI E4), some (iI E5), some (iI E6), some (iI ((1 + 7 * k : Nat) : Int)), x] [] (SH b) M1 0 0 q) ∧ Fr [43] M M2 ∧ M2 43 0 = (c : Int) ∧ (∀ j, j < 7 * i → M2 43 (1 + j) = W j) ∧ (∀ j, 7 * i ≤ j → j < 7 * c → M2 43 (8 + j) = W j) := by
    intro k
    induction k with
    | zero =>
      intro M1 x hk e fr h0 h1 h2
      have e : i = 0 := e.symm
      subst e
      refine ⟨M1, x, fun q hq => ?_, fr, h0, h1, h2⟩
      refine i_iload rfl rfl ?_
      refine i_iconst (n := 1) rfl (by unfold iR; omega) ?_
      refine i_icmp_le_t rfl (by first | omega | assumption) ?_
      -- at 110
      exact hq
    | succ k ih =>
      intro M1 x hk e fr h0 h1 h2
      have e : (if W (7 * k) < E0 ∨ (W (7 * k) = E0 ∧ W (7 * k + 1) < E1) then k + 1 else ipos W E0 E1 k) = i := e
      have n1 := hne k (by omega)
      have w0 := h1 (7 * k) (by omega)
      have w1 := h1 (7 * k + 1) (by omega)
      by_cases q : W (7 * k) < E0 ∨ (W (7 * k) = E0 ∧ W (7 * k + 1) < E1)
      · rw [if_pos q] at e
        subst e
        refine ⟨M1, x, fun o ho => ?_, fr, h0, h1, h2⟩
        refine i_iload rfl rfl ?_
        refine i_iconst (n := 1) rfl (by unfold iR; omega) ?_
        refine i_icmp_le_f rfl (by first | omega | assumption) ?_
        refine i_aload_n rfl rfl ?_
        refine i_getr rfl rfl rfl rfl (by decide) rfl ?_
        refine i_iload rfl rfl ?_
        refine i_bipush (n := 7) rfl (by unfold iR; omega) (by decide) ?_
        refine i_isub rfl (by unfold iR; omega) ?_
        refine i_iald rfl rfl (by first | omega | assumption) (by first | omega | assumption) (by decide) ?_
        -- at 29
        rw [show (((1 + 7 * (k + 1) : Nat) : Int) - 7).toNat = 1 + 7 * k by omega, w0]
        refine i_iload_n rfl rfl ?_
        refine i_icmp_gt_f rfl (by first | omega | assumption) ?_
        refine i_aload_n rfl rfl ?_
        refine i_getr rfl rfl rfl rfl (by decide) rfl ?_
        refine i_iload rfl rfl ?_
        refine i_bipush (n := 7) rfl (by unfold iR; omega) (by decide) ?_
        refine i_isub rfl (by unfold iR; omega) ?_
        refine i_iald rfl rfl (by first | omega | assumption) (by first | omega | assumption) (by decide) ?_
        -- at 43
        rw [show (((1 + 7 * (k + 1) : Nat) : Int) - 7).toNat = 1 + 7 * k by omega, w0]
        by_cases q1 : W (7 * k) = E0
        · refine i_iload_n rfl rfl ?_
          refine i_icmp_ne_f rfl (by first | omega | assumption) ?_
          refine i_aload_n rfl rfl ?_
          refine i_getr rfl rfl rfl rfl (by decide) rfl ?_
          refine i_iload rfl rfl ?_
          refine i_bipush (n := 6) rfl (by unfold iR; omega) (by decide) ?_
          refine i_isub rfl (by unfold iR; omega) ?_
          refine i_iald rfl rfl (by first | omega | assumption) (by first | omega | assumption) (by decide) ?_
          -- at 57
          rw [show (((1 + 7 * (k + 1) : Nat) : Int) - 6).toNat = 1 + (7 * k + 1) by omega, w1]
          refine i_iload_n rfl rfl ?_
          refine i_icmp_le_t rfl (by first | omega | assumption) ?_
          -- at 110
          exact ho
        · refine i_iload_n rfl rfl ?_
          refine i_icmp_ne_t rfl (by first | omega | assumption) ?_
          -- at 110
          exact ho
      · rw [if_neg q] at e
        obtain ⟨M2, y, k1, k2⟩ := ih (va_up M1 43 (shf (M1 43) (1 + 7 * (k + 1)) 7)) (some (iI ((7 : Nat) : Int))) (by omega) e (Fr_up fr (by decide)) (by
          rw [up_s]
          unfold shf
          rw [if_neg (by omega)]
          exact h0) (fun j hj => by
          rw [up_s]
          unfold shf
          rw [if_neg (by omega)]
          exact h1 j (by omega)) (fun j hj1 hj2 => by
          rw [up_s]
          unfold shf
          by_cases z : j < 7 * (k + 1)
          · rw [if_pos (by omega), show 8 + j - 7 = 1 + j by omega]
            exact h1 j z
          · rw [if_neg (by omega)]
            exact h2 j (by omega) hj2)
        refine ⟨M2, y, fun o ho => ?_, k2⟩
        have k1 := k1 o ho
        have sh0 : shf (M1 43) (1 + 7 * (k + 1)) 0 = M1 43 := by
          funext j
          unfold shf
          rw [if_neg (by omega)]
        have up0 : va_up M1 43 (shf (M1 43) (1 + 7 * (k + 1)) 0) = M1 := by
          rw [sh0]
          funext x
          by_cases z : x = 43
          · rw [z, up_s]
          · rw [up_n z]
        have inn := inner M1 (k + 1) (by omega) hk o (by
          refine i_iload rfl rfl ?_
          refine i_bipush (n := 7) rfl (by unfold iR; omega) (by decide) ?_
          refine i_isub rfl (by unfold iR; omega) ?_
          refine i_istore rfl (Nat.le_of_ble_eq_true rfl) rfl ?_
          refine i_goto rfl ?_
          -- at 13
          rw [show ((1 + 7 * (k + 1) : Nat) : Int) - 7 = ((1 + 7 * k : Nat) : Int) by omega]
          exact k1) 7 0 (by omega)
        rw [up0] at inn
        refine i_iload rfl rfl ?_
        refine i_iconst (n := 1) rfl (by unfold iR; omega) ?_
        refine i_icmp_le_f rfl (by first | omega | assumption) ?_
        refine i_aload_n rfl rfl ?_
        refine i_getr rfl rfl rfl rfl (by decide) rfl ?_
        refine i_iload rfl rfl ?_
        refine i_bipush (n := 7) rfl (by unfold iR; omega) (by decide) ?_
        refine i_isub rfl (by unfold iR; omega) ?_
        refine i_iald rfl rfl (by first | omega | assumption) (by first | omega | assumption) (by decide) ?_
        -- at 29
        rw [show (((1 + 7 * (k + 1) : Nat) : Int) - 7).toNat = 1 + 7 * k by omega, w0]
        by_cases q1 : E0 < W (7 * k)
        · refine i_iload_n rfl rfl ?_
          refine i_icmp_gt_t rfl (by first | omega | assumption) ?_
          refine i_iconst (n := 0) rfl (by unfold iR; omega) ?_
          refine i_istore rfl (Nat.le_of_ble_eq_true rfl) rfl ?_
          -- at 64
          exact inn
        · refine i_iload_n rfl rfl ?_
          refine i_icmp_gt_f rfl (by first | omega | assumption) ?_
          refine i_aload_n rfl rfl ?_
          refine i_getr rfl rfl rfl rfl (by decide) rfl ?_
          refine i_iload rfl rfl ?_
          refine i_bipush (n := 7) rfl (by unfold iR; omega) (by decide) ?_
          refine i_isub rfl (by unfold iR; omega) ?_
          refine i_iald rfl rfl (by first | omega | assumption) (by first | omega | assumption) (by decide) ?_
          -- at 43
          rw [show (((1 + 7 * (k + 1) : Nat) : Int) - 7).toNat = 1 + 7 * k by omega, w0]
          refine i_iload_n rfl rfl ?_
          refine i_icmp_ne_f rfl (by first | omega | assumption) ?_
          refine i_aload_n rfl rfl ?_
          refine i_getr rfl rfl rfl rfl (by decide) rfl ?_
          refine i_iload rfl rfl ?_
          refine i_bipush (n := 6) rfl (by unfold iR; omega) (by decide) ?_
          refine i_isub rfl (by unfold iR; omega) ?_
          refine i_iald rfl rfl (by first | omega | assumption) (by first | omega | assumption) (by decide) ?_
          -- at 57
          rw [show (((1 + 7 * (k + 1) : Nat) : Int) - 6).toNat = 1 + (7 * k + 1) by omega, w1]
          refine i_iload_n rfl rfl ?_
          refine i_icmp_le_f rfl (by first | omega | assumption) ?_
          refine i_iconst (n := 0) rfl (by unfold iR; omega) ?_
          refine i_istore rfl (Nat.le_of_ble_eq_true rfl) rfl ?_
          -- at 64
          exact inn
  obtain ⟨M2, y, k1, k2, k3, k4, k5⟩ := outer c M none (Nat.le_refl _) ei (Fr_r _ _) hc hw (fun j h1 h2 => by omega)
  refine ⟨i_st (i_st (i_st (i_st (i_st (i_st (i_st (i_st M2 43 (1 + 7 * i) E0) 43 (1 + 7 * i + 1) E1) 43 (1 + 7 * i + 2) E2) 43 (1 + 7 * i + 3) E3) 43 (1 + 7 * i + 4) E4) 43 (1 + 7 * i + 5) E5) 43 (1 + 7 * i + 6) E6) 43 0 ((c : Int) + 1), ?_, Fr_st (Fr_st (Fr_st (Fr_st (Fr_st (Fr_st (Fr_st (Fr_st k2 (by decide)) (by decide)) (by decide)) (by decide)) (by decide)) (by decide)) (by decide)) (by decide), ?_, fun j hj => ?_⟩
  · refine i_iconst (n := 1) rfl (by unfold iR; omega) ?_
    refine i_bipush (n := 7) rfl (by unfold iR; omega) (by decide) ?_
    refine i_aload_n rfl rfl ?_
    refine i_getr rfl rfl rfl rfl (by decide) rfl ?_
    refine i_iconst (n := 0) rfl (by unfold iR; omega) ?_
    refine i_iald rfl rfl (by first | omega | assumption) (by first | omega | assumption) (by decide) ?_
    -- at 9
    show irun none zp_151 9 _ (iI (M 43 0) :: _) _ _ 0 0 _
    rw [hc]
    refine i_imul rfl (by unfold iR; omega) ?_
    refine i_iadd rfl (by unfold iR; omega) ?_
    refine i_istore rfl (Nat.le_of_ble_eq_true rfl) rfl ?_
    -- at 13
    rw [show (1 : Int) + 7 * (c : Int) = ((1 + 7 * c : Nat) : Int) by omega]
    refine k1 _ ?_
    refine i_aload_n rfl rfl ?_
    refine i_getr rfl rfl rfl rfl (by decide) rfl ?_
    refine i_iload rfl rfl ?_
    refine i_iload_n rfl rfl ?_
    refine i_iast rfl rfl (by first | omega | assumption) (by first | omega | assumption) ?_
    -- at 118
    rw [show ((1 + 7 * i : Nat) : Int).toNat = 1 + 7 * i by omega]
    refine i_aload_n rfl rfl ?_
    refine i_getr rfl rfl rfl rfl (by decide) rfl ?_
    refine i_iload rfl rfl ?_
    refine i_iconst (n := 1) rfl (by unfold iR; omega) ?_
    refine i_iadd rfl (by unfold iR; omega) ?_
    refine i_iload_n rfl rfl ?_
    refine i_iast rfl rfl (by first | omega | assumption) (by first | omega | assumption) ?_
    -- at 128
    rw [show (((1 + 7 * i : Nat) : Int) + 1).toNat = 1 + 7 * i + 1 by omega]
    refine i_aload_n rfl rfl ?_
    refine i_getr rfl rfl rfl rfl (by decide) rfl ?_
    refine i_iload rfl rfl ?_
    refine i_iconst (n := 2) rfl (by unfold iR; omega) ?_
    refine i_iadd rfl (by unfold iR; omega) ?_
    refine i_iload_n rfl rfl ?_
    refine i_iast rfl rfl (by first | omega | assumption) (by first | omega | assumption) ?_
    -- at 138
    rw [show (((1 + 7 * i : Nat) : Int) + 2).toNat = 1 + 7 * i + 2 by omega]
    refine i_aload_n rfl rfl ?_
    refine i_getr rfl rfl rfl rfl (by decide) rfl ?_
    refine i_iload rfl rfl ?_
    refine i_iconst (n := 3) rfl (by unfold iR; omega) ?_
    refine i_iadd rfl (by unfold iR; omega) ?_
    refine i_iload rfl rfl ?_
    refine i_iast rfl rfl (by first | omega | assumption) (by first | omega | assumption) ?_
    -- at 149
    rw [show (((1 + 7 * i : Nat) : Int) + 3).toNat = 1 + 7 * i + 3 by omega]
    refine i_aload_n rfl rfl ?_
    refine i_getr rfl rfl rfl rfl (by decide) rfl ?_
    refine i_iload rfl rfl ?_
    refine i_iconst (n := 4) rfl (by unfold iR; omega) ?_
    refine i_iadd rfl (by unfold iR; omega) ?_
    refine i_iload rfl rfl ?_
    refine i_iast rfl rfl (by first | omega | assumption) (by first | omega | assumption) ?_
    -- at 160
    rw [show (((1 + 7 * i : Nat) : Int) + 4).toNat = 1 + 7 * i + 4 by omega]
    refine i_aload_n rfl rfl ?_
    refine i_getr rfl rfl rfl rfl (by decide) rfl ?_
    refine i_iload rfl rfl ?_
    refine i_iconst (n := 5) rfl (by unfold iR; omega) ?_
    refine i_iadd rfl (by unfold iR; omega) ?_
    refine i_iload rfl rfl ?_
    refine i_iast rfl rfl (by first | omega | assumption) (by first | omega | assumption) ?_
    -- at 171
    rw [show (((1 + 7 * i : Nat) : Int) + 5).toNat = 1 + 7 * i + 5 by omega]
    refine i_aload_n rfl rfl ?_
    refine i_getr rfl rfl rfl rfl (by decide) rfl ?_
    refine i_iload rfl rfl ?_
    refine i_bipush (n := 6) rfl (by unfold iR; omega) (by decide) ?_
    refine i_iadd rfl (by unfold iR; omega) ?_
    refine i_iload rfl rfl ?_
    refine i_iast rfl rfl (by first | omega | assumption) (by first | omega | assumption) ?_
    -- at 183
    rw [show (((1 + 7 * i : Nat) : Int) + 6).toNat = 1 + 7 * i + 6 by omega]
    refine i_aload_n rfl rfl ?_
    refine i_getr rfl rfl rfl rfl (by decide) rfl ?_
    refine i_iconst (n := 0) rfl (by unfold iR; omega) ?_
    refine i_dup2 rfl ?_
    refine i_iald rfl rfl (by first | omega | assumption) (by first | omega | assumption) (by decide) ?_
    -- at 190
    have e0 : (i_st (i_st (i_st (i_st (i_st (i_st (i_st M2 43 (1 + 7 * i) E0) 43 (1 + 7 * i + 1) E1) 43 (1 + 7 * i + 2) E2) 43 (1 + 7 * i + 3) E3) 43 (1 + 7 * i + 4) E4) 43 (1 + 7 * i + 5) E5) 43 (1 + 7 * i + 6) E6) 43 0 = (c : Int) := by
      unfold i_st
      simp only [up_s]
      rw [up_n (by omega), up_n (by omega), up_n (by omega), up_n (by omega), up_n (by omega), up_n (by omega), up_n (by omega)]
      exact k3
    rw [show (0 : Int).toNat = 0 from rfl, e0]
    refine i_iconst (n := 1) rfl (by unfold iR; omega) ?_
    refine i_iadd rfl (by unfold iR; omega) ?_
    refine i_iast rfl rfl (by first | omega | assumption) (by first | omega | assumption) ?_
    -- at 193
    exact i_vreturn rfl rfl
  · unfold i_st
    rw [up_s, up_s]
    omega
  · unfold i_st
    simp only [up_s]
    rw [up_n (by omega)]
    unfold insW
    by_cases e1 : j < 7 * i
    · rw [up_n (by omega), up_n (by omega), up_n (by omega), up_n (by omega), up_n (by omega), up_n (by omega), up_n (by omega), if_pos e1]
      exact k4 j e1
    · rw [if_neg e1]
      by_cases e2 : j < 7 * i + 7
      · rw [if_pos e2]
        unfold e7
        rcases (show j = 7 * i ∨ j = 7 * i + 1 ∨ j = 7 * i + 2 ∨ j = 7 * i + 3 ∨ j = 7 * i + 4 ∨ j = 7 * i + 5 ∨ j = 7 * i + 6 by omega) with h | h | h | h | h | h | h
        · subst h
          rw [up_n (by omega), up_n (by omega), up_n (by omega), up_n (by omega), up_n (by omega), up_n (by omega), up_s, if_pos (by omega)]
        · subst h
          rw [show 1 + (7 * i + 1) = 1 + 7 * i + 1 by omega, up_n (by omega), up_n (by omega), up_n (by omega), up_n (by omega), up_n (by omega), up_s, if_neg (by omega), if_pos (by omega)]
        · subst h
          rw [show 1 + (7 * i + 2) = 1 + 7 * i + 2 by omega, up_n (by omega), up_n (by omega), up_n (by omega), up_n (by omega), up_s, if_neg (by omega), if_neg (by omega), if_pos (by omega)]
        · subst h
          rw [show 1 + (7 * i + 3) = 1 + 7 * i + 3 by omega, up_n (by omega), up_n (by omega), up_n (by omega), up_s, if_neg (by omega), if_neg (by omega), if_neg (by omega), if_pos (by omega)]
        · subst h
          rw [show 1 + (7 * i + 4) = 1 + 7 * i + 4 by omega, up_n (by omega), up_n (by omega), up_s, if_neg (by omega), if_neg (by omega), if_neg (by omega), if_neg (by omega), if_pos (by omega)]
        · subst h
          rw [show 1 + (7 * i + 5) = 1 + 7 * i + 5 by omega, up_n (by omega), up_s, if_neg (by omega), if_neg (by omega), if_neg (by omega), if_neg (by omega), if_neg (by omega), if_pos (by omega)]
        · subst h
          rw [show 1 + (7 * i + 6) = 1 + 7 * i + 6 by omega, up_s, if_neg (by omega), if_neg (by omega), if_neg (by omega), if_neg (by omega), if_neg (by omega), if_neg (by omega)]
      · rw [up_n (by omega), up_n (by omega), up_n (by omega), up_n (by omega), up_n (by omega), up_n (by omega), up_n (by omega), if_neg e2]
        have := k5 (j - 7) (by omega) (by omega)
        rw [show 8 + (j - 7) = 1 + j by omega] at this
        exact this
