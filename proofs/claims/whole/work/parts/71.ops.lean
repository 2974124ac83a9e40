theorem up_step {f g : Nat → Int} {k : Nat} {a : Int} (ha : a = f k) : va_up (fun j => if j < k then f j else g j) k a = fun j => if j < k + 1 then f j else g j := by
  funext j
  grind [va_up]
set_option maxRecDepth 100000 in
theorem o_damage {w : Int} {b : Bool} {M : iM} {s p t : Int} (h : Inv w b M) : Op w b M zp_14 zp_162 [iI s, iI p, iI t] := by
  have hi := h
  obtain ⟨⟨f1, f2, f3⟩, h2, h3, h4, h5, h6, h7, h8⟩ := hi
  by_cases hp : 0 ≤ s ∧ s < 60 ∧ 0 ≤ p ∧ p < 12
  · obtain ⟨c1, c2, c3, c4⟩ := hp
    obtain ⟨s, rfl⟩ := Int.eq_ofNat_of_zero_le c1
    obtain ⟨p, rfl⟩ := Int.eq_ofNat_of_zero_le c3
    by_cases ht : 1 ≤ t ∧ t < 256
    · have g1 := f1 (s * 12 + p) (by omega)
      have g2 := f2 (s * 12 + p)
      have g3 := ix_b g1.1 g1.2 (show 0 ≤ t by omega) ht.2
      refine ⟨1, b, i_st M 2 (s * 12 + p) (ix (M 2 (s * 12 + p)) t), i_st (i_st M 2 (s * 12 + p) (ix (M 2 (s * 12 + p)) t)) 41 (s * 12 + p) (ix (M 41 (s * 12 + p)) t), ?_, ?_, ?_⟩
      · have hfl : irun none zp_33 0 (i_ent [iP 1, iI (s : Int), iI (p : Int), iI t] 4) [] (SH b) M 0 0 (none, SH b, i_st M 2 (s * 12 + p) (ix (M 2 (s * 12 + p)) t)) := by
          rw [← g2, show s * 12 + p = ((s : Int) * 12 + (p : Int)).toNat by omega] at g1
          refine i_aload_n rfl rfl ?_
          refine i_getr rfl rfl rfl rfl (by decide) rfl ?_
          refine i_iload_n rfl rfl ?_
          refine i_bipush (n := 12) rfl (by unfold iR; omega) (by decide) ?_
          refine i_imul rfl (by unfold iR; omega) ?_
          refine i_iload_n rfl rfl ?_
          refine i_iadd rfl (by unfold iR; omega) ?_
          refine i_dup2 rfl ?_
          refine i_iald rfl rfl (by first | omega | assumption) (by first | omega | assumption) (by decide) ?_
          refine i_iload_n rfl rfl ?_
          refine i_ixor rfl (by first | omega | assumption) (by first | omega | assumption) ?_
          refine i_iast rfl rfl (by first | omega | assumption) (by first | omega | assumption) ?_
          -- at 15
          rw [show ((s : Int) * 12 + (p : Int)).toNat = s * 12 + p by omega]
          exact i_vreturn rfl rfl
        refine i_iload_n rfl rfl ?_
        refine i_iload_n rfl rfl ?_
        -- at 2
        refine i_call (T := (30, zp_30)) rfl rfl (c_isPlace) rfl rfl rfl rfl rfl rfl rfl ?_
        try dsimp only
        show irun none zp_14 5 _ [iI (bi _)] _ _ 0 0 _
        rw [bi_t ⟨c1, c2, c3, c4⟩]
        refine i_if_eq_f rfl (by first | omega | assumption) ?_
        refine i_iload_n rfl rfl ?_
        refine i_iconst (n := 1) rfl (by unfold iR; omega) ?_
        refine i_icmp_lt_f rfl (by first | omega | assumption) ?_
        refine i_iload_n rfl rfl ?_
        refine i_sipush (n := 256) rfl (by unfold iR; omega) (by decide) ?_
        refine i_icmp_lt_t rfl (by first | omega | assumption) ?_
        refine i_aload_n rfl rfl ?_
        refine i_getr rfl rfl rfl rfl (by decide) rfl ?_
        refine i_iload_n rfl rfl ?_
        refine i_iload_n rfl rfl ?_
        refine i_iload_n rfl rfl ?_
        -- at 29
        refine i_call (T := (33, zp_33)) rfl rfl (hfl) rfl rfl rfl rfl rfl rfl rfl ?_
        try dsimp only
        refine i_iconst (n := 1) rfl (by unfold iR; omega) ?_
        -- at 33
        exact i_zreturn rfl rfl (by first | omega | assumption)
      · have e : ((12 : Int) * (s : Int) + (p : Int)).toNat = s * 12 + p := by omega
        rw [← e] at g1
        have g1 : 0 ≤ (i_st M 2 (s * 12 + p) (ix (M 2 (s * 12 + p)) t)) 41 (12 * (s : Int) + (p : Int)).toNat ∧ (i_st M 2 (s * 12 + p) (ix (M 2 (s * 12 + p)) t)) 41 (12 * (s : Int) + (p : Int)).toNat < 256 := g1
        refine i_iload_n rfl rfl ?_
        refine i_if_lt_f rfl (by first | omega | assumption) ?_
        refine i_iload_n rfl rfl ?_
        refine i_bipush (n := 60) rfl (by unfold iR; omega) (by decide) ?_
        refine i_icmp_ge_f rfl (by first | omega | assumption) ?_
        refine i_iload_n rfl rfl ?_
        refine i_if_lt_f rfl (by first | omega | assumption) ?_
        refine i_iload_n rfl rfl ?_
        refine i_bipush (n := 12) rfl (by unfold iR; omega) (by decide) ?_
        refine i_icmp_ge_f rfl (by first | omega | assumption) ?_
        refine i_iload_n rfl rfl ?_
        refine i_iconst (n := 1) rfl (by unfold iR; omega) ?_
        refine i_icmp_lt_f rfl (by first | omega | assumption) ?_
        refine i_iload_n rfl rfl ?_
        refine i_sipush (n := 255) rfl (by unfold iR; omega) (by decide) ?_
        refine i_icmp_le_t rfl (by first | omega | assumption) ?_
        refine i_aload_n rfl rfl ?_
        refine i_getr rfl rfl rfl rfl (by decide) rfl ?_
        refine i_bipush (n := 12) rfl (by unfold iR; omega) (by decide) ?_
        refine i_iload_n rfl rfl ?_
        refine i_imul rfl (by unfold iR; omega) ?_
        refine i_iload_n rfl rfl ?_
        refine i_iadd rfl (by unfold iR; omega) ?_
        refine i_aload_n rfl rfl ?_
        refine i_getr rfl rfl rfl rfl (by decide) rfl ?_
        refine i_bipush (n := 12) rfl (by unfold iR; omega) (by decide) ?_
        refine i_iload_n rfl rfl ?_
        refine i_imul rfl (by unfold iR; omega) ?_
        refine i_iload_n rfl rfl ?_
        refine i_iadd rfl (by unfold iR; omega) ?_
        refine i_iald rfl rfl (by first | omega | assumption) (by first | omega | assumption) (by decide) ?_
        refine i_iload_n rfl rfl ?_
        refine i_ixor rfl (by first | omega | assumption) (by first | omega | assumption) ?_
        refine i_iast rfl rfl (by first | omega | assumption) (by first | omega | assumption) ?_
        refine i_iconst (n := 1) rfl (by unfold iR; omega) ?_
        -- at 59
        rw [e]
        exact i_zreturn rfl rfl (by first | omega | assumption)
      · refine ⟨⟨?_, ?_, f3⟩, (Inv_w (w := w) (v := w + 300) ⟨⟨f1, f2, f3⟩, h2, h3, h4, h5, h6, h7, h8⟩ (by omega)).2.1, ?_, h4, h5, h6, ?_, h8⟩
        · intro j hj
          show 0 ≤ va_up (M 41) (s * 12 + p) (ix (M 41 (s * 12 + p)) t) j ∧ va_up (M 41) (s * 12 + p) (ix (M 41 (s * 12 + p)) t) j < 256
          by_cases e : j = s * 12 + p
          · rw [e, up_s]
            exact g3
          · rw [up_n e]
            exact f1 j hj
        · intro j
          show va_up (M 2) (s * 12 + p) (ix (M 2 (s * 12 + p)) t) j = va_up (M 41) (s * 12 + p) (ix (M 41 (s * 12 + p)) t) j
          rw [g2]
          by_cases e : j = s * 12 + p
          · rw [e, up_s, up_s]
          · rw [up_n e, up_n e]
            exact f2 j
        · cases b <;> exact h3
        · cases b <;> exact h7
    · refine ⟨0, b, M, M, ?_, ?_, Inv_w h (by omega)⟩
      · refine i_iload_n rfl rfl ?_
        refine i_iload_n rfl rfl ?_
        -- at 2
        refine i_call (T := (30, zp_30)) rfl rfl (c_isPlace) rfl rfl rfl rfl rfl rfl rfl ?_
        try dsimp only
        show irun none zp_14 5 _ [iI (bi _)] _ _ 0 0 _
        rw [bi_t ⟨c1, c2, c3, c4⟩]
        by_cases c5 : t < 1
        · refine i_if_eq_f rfl (by first | omega | assumption) ?_
          refine i_iload_n rfl rfl ?_
          refine i_iconst (n := 1) rfl (by unfold iR; omega) ?_
          refine i_icmp_lt_t rfl (by first | omega | assumption) ?_
          refine i_iconst (n := 0) rfl (by unfold iR; omega) ?_
          -- at 21
          exact i_zreturn rfl rfl (by first | omega | assumption)
        · refine i_if_eq_f rfl (by first | omega | assumption) ?_
          refine i_iload_n rfl rfl ?_
          refine i_iconst (n := 1) rfl (by unfold iR; omega) ?_
          refine i_icmp_lt_f rfl (by first | omega | assumption) ?_
          refine i_iload_n rfl rfl ?_
          refine i_sipush (n := 256) rfl (by unfold iR; omega) (by decide) ?_
          refine i_icmp_lt_f rfl (by first | omega | assumption) ?_
          refine i_iconst (n := 0) rfl (by unfold iR; omega) ?_
          -- at 21
          exact i_zreturn rfl rfl (by first | omega | assumption)
      · by_cases c5 : t < 1
        · refine i_iload_n rfl rfl ?_
          refine i_if_lt_f rfl (by first | omega | assumption) ?_
          refine i_iload_n rfl rfl ?_
          refine i_bipush (n := 60) rfl (by unfold iR; omega) (by decide) ?_
          refine i_icmp_ge_f rfl (by first | omega | assumption) ?_
          refine i_iload_n rfl rfl ?_
          refine i_if_lt_f rfl (by first | omega | assumption) ?_
          refine i_iload_n rfl rfl ?_
          refine i_bipush (n := 12) rfl (by unfold iR; omega) (by decide) ?_
          refine i_icmp_ge_f rfl (by first | omega | assumption) ?_
          refine i_iload_n rfl rfl ?_
          refine i_iconst (n := 1) rfl (by unfold iR; omega) ?_
          refine i_icmp_lt_t rfl (by first | omega | assumption) ?_
          refine i_iconst (n := 0) rfl (by unfold iR; omega) ?_
          -- at 33
          exact i_zreturn rfl rfl (by first | omega | assumption)
        · refine i_iload_n rfl rfl ?_
          refine i_if_lt_f rfl (by first | omega | assumption) ?_
          refine i_iload_n rfl rfl ?_
          refine i_bipush (n := 60) rfl (by unfold iR; omega) (by decide) ?_
          refine i_icmp_ge_f rfl (by first | omega | assumption) ?_
          refine i_iload_n rfl rfl ?_
          refine i_if_lt_f rfl (by first | omega | assumption) ?_
          refine i_iload_n rfl rfl ?_
          refine i_bipush (n := 12) rfl (by unfold iR; omega) (by decide) ?_
          refine i_icmp_ge_f rfl (by first | omega | assumption) ?_
          refine i_iload_n rfl rfl ?_
          refine i_iconst (n := 1) rfl (by unfold iR; omega) ?_
          refine i_icmp_lt_f rfl (by first | omega | assumption) ?_
          refine i_iload_n rfl rfl ?_
          refine i_sipush (n := 255) rfl (by unfold iR; omega) (by decide) ?_
          refine i_icmp_le_f rfl (by first | omega | assumption) ?_
          refine i_iconst (n := 0) rfl (by unfold iR; omega) ?_
          -- at 33
          exact i_zreturn rfl rfl (by first | omega | assumption)
  · refine ⟨0, b, M, M, ?_, ?_, Inv_w h (by omega)⟩
    · refine i_iload_n rfl rfl ?_
      refine i_iload_n rfl rfl ?_
      -- at 2
      refine i_call (T := (30, zp_30)) rfl rfl (c_isPlace) rfl rfl rfl rfl rfl rfl rfl ?_
      try dsimp only
      show irun none zp_14 5 _ [iI (bi _)] _ _ 0 0 _
      rw [bi_f hp]
      refine i_if_eq_t rfl (by first | omega | assumption) ?_
      refine i_iconst (n := 0) rfl (by unfold iR; omega) ?_
      -- at 21
      exact i_zreturn rfl rfl (by first | omega | assumption)
    · by_cases c1 : s < 0
      · refine i_iload_n rfl rfl ?_
        refine i_if_lt_t rfl (by first | omega | assumption) ?_
        refine i_iconst (n := 0) rfl (by unfold iR; omega) ?_
        -- at 33
        exact i_zreturn rfl rfl (by first | omega | assumption)
      · by_cases c2 : 60 ≤ s
        · refine i_iload_n rfl rfl ?_
          refine i_if_lt_f rfl (by first | omega | assumption) ?_
          refine i_iload_n rfl rfl ?_
          refine i_bipush (n := 60) rfl (by unfold iR; omega) (by decide) ?_
          refine i_icmp_ge_t rfl (by first | omega | assumption) ?_
          refine i_iconst (n := 0) rfl (by unfold iR; omega) ?_
          -- at 33
          exact i_zreturn rfl rfl (by first | omega | assumption)
        · by_cases c3 : p < 0
          · refine i_iload_n rfl rfl ?_
            refine i_if_lt_f rfl (by first | omega | assumption) ?_
            refine i_iload_n rfl rfl ?_
            refine i_bipush (n := 60) rfl (by unfold iR; omega) (by decide) ?_
            refine i_icmp_ge_f rfl (by first | omega | assumption) ?_
            refine i_iload_n rfl rfl ?_
            refine i_if_lt_t rfl (by first | omega | assumption) ?_
            refine i_iconst (n := 0) rfl (by unfold iR; omega) ?_
            -- at 33
            exact i_zreturn rfl rfl (by first | omega | assumption)
          · refine i_iload_n rfl rfl ?_
            refine i_if_lt_f rfl (by first | omega | assumption) ?_
            refine i_iload_n rfl rfl ?_
            refine i_bipush (n := 60) rfl (by unfold iR; omega) (by decide) ?_
            refine i_icmp_ge_f rfl (by first | omega | assumption) ?_
            refine i_iload_n rfl rfl ?_
            refine i_if_lt_f rfl (by first | omega | assumption) ?_
            refine i_iload_n rfl rfl ?_
            refine i_bipush (n := 12) rfl (by unfold iR; omega) (by decide) ?_
            refine i_icmp_ge_t rfl (by first | omega | assumption) ?_
            refine i_iconst (n := 0) rfl (by unfold iR; omega) ?_
            -- at 33
            exact i_zreturn rfl rfl (by first | omega | assumption)
set_option maxRecDepth 100000 in
theorem o_limit {w : Int} {b : Bool} {M : iM} {n : Int} (h : Inv w b M) : Op w b M zp_11 zp_160 [iI n] := by
  have hi := h
  obtain ⟨h1, ⟨a1, a2, a3, a4, a5, a6, a7, a8⟩, h3, h4, h5, h6, h7, h8⟩ := hi
  rcases a1 with a1 | a1
  · by_cases hn : 0 ≤ n ∧ n ≤ 200
    · refine ⟨1, b, i_st M 1 3 n, i_st (i_st (i_st M 1 3 n) 40 2 1) 40 3 n, ?_, ?_, ?_⟩
      · have hal : irun none zp_36 0 (i_ent [iP 1, iI n] 2) [] (SH b) M 0 0 (none, SH b, i_st M 1 3 n) := by
          refine i_aload_n rfl rfl ?_
          refine i_iload_n rfl rfl ?_
          refine i_puti rfl rfl rfl rfl ?_
          -- at 5
          exact i_vreturn rfl rfl
        refine i_aload_n rfl rfl ?_
        refine i_getr rfl rfl rfl rfl (by decide) rfl ?_
        -- at 4
        refine i_call (T := (34, zp_34)) rfl rfl (c_isStopped (Or.inl a1)) rfl rfl rfl rfl rfl rfl rfl ?_
        try dsimp only
        show irun none zp_11 7 _ [iI (M 1 4)] _ _ 0 0 _
        refine i_if_ne_f rfl (by first | omega | assumption) ?_
        refine i_iload_n rfl rfl ?_
        refine i_if_lt_f rfl (by first | omega | assumption) ?_
        refine i_iload_n rfl rfl ?_
        refine i_sipush (n := 200) rfl (by unfold iR; omega) (by decide) ?_
        refine i_icmp_le_t rfl (by first | omega | assumption) ?_
        refine i_aload_n rfl rfl ?_
        refine i_getr rfl rfl rfl rfl (by decide) rfl ?_
        refine i_iload_n rfl rfl ?_
        -- at 28
        refine i_call (T := (36, zp_36)) rfl rfl (hal) rfl rfl rfl rfl rfl rfl rfl ?_
        try dsimp only
        refine i_iconst (n := 1) rfl (by unfold iR; omega) ?_
        -- at 32
        exact i_zreturn rfl rfl (by first | omega | assumption)
      · have a2 : (i_st M 1 3 n) 40 1 = 0 := a2.trans a1
        refine i_aload_n rfl rfl ?_
        refine i_getf rfl rfl rfl rfl (by decide) ?_
        refine i_if_ne_f rfl (by first | omega | assumption) ?_
        refine i_iload_n rfl rfl ?_
        refine i_if_lt_f rfl (by first | omega | assumption) ?_
        refine i_iload_n rfl rfl ?_
        refine i_sipush (n := 200) rfl (by unfold iR; omega) (by decide) ?_
        refine i_icmp_le_t rfl (by first | omega | assumption) ?_
        refine i_aload_n rfl rfl ?_
        refine i_iconst (n := 1) rfl (by unfold iR; omega) ?_
        refine i_putz rfl rfl rfl rfl (by first | omega | assumption) ?_
        refine i_aload_n rfl rfl ?_
        refine i_iload_n rfl rfl ?_
        refine i_puti rfl rfl rfl rfl ?_
        refine i_iconst (n := 1) rfl (by unfold iR; omega) ?_
        -- at 31
        exact i_zreturn rfl rfl (by first | omega | assumption)
      · refine ⟨h1, ⟨Or.inl a1, a2, Or.inr rfl, hn.1, hn.2, ?_, a7, by show M 1 5 ≤ w + 300; omega⟩, ?_, h4, h5, h6, ?_, h8⟩
        · show n = if (1 : Int) = 1 then n else -1
          rw [if_pos rfl]
        · cases b <;> exact h3
        · cases b <;> exact h7
    · refine ⟨0, b, M, M, ?_, ?_, Inv_w h (by omega)⟩
      · refine i_aload_n rfl rfl ?_
        refine i_getr rfl rfl rfl rfl (by decide) rfl ?_
        -- at 4
        refine i_call (T := (34, zp_34)) rfl rfl (c_isStopped (Or.inl a1)) rfl rfl rfl rfl rfl rfl rfl ?_
        try dsimp only
        show irun none zp_11 7 _ [iI (M 1 4)] _ _ 0 0 _
        by_cases c : n < 0
        · refine i_if_ne_f rfl (by first | omega | assumption) ?_
          refine i_iload_n rfl rfl ?_
          refine i_if_lt_t rfl (by first | omega | assumption) ?_
          refine i_iconst (n := 0) rfl (by unfold iR; omega) ?_
          -- at 22
          exact i_zreturn rfl rfl (by first | omega | assumption)
        · refine i_if_ne_f rfl (by first | omega | assumption) ?_
          refine i_iload_n rfl rfl ?_
          refine i_if_lt_f rfl (by first | omega | assumption) ?_
          refine i_iload_n rfl rfl ?_
          refine i_sipush (n := 200) rfl (by unfold iR; omega) (by decide) ?_
          refine i_icmp_le_f rfl (by first | omega | assumption) ?_
          refine i_iconst (n := 0) rfl (by unfold iR; omega) ?_
          -- at 22
          exact i_zreturn rfl rfl (by first | omega | assumption)
      · by_cases c : n < 0
        · refine i_aload_n rfl rfl ?_
          refine i_getf rfl rfl rfl rfl (by decide) ?_
          refine i_if_ne_f rfl (by first | omega | assumption) ?_
          refine i_iload_n rfl rfl ?_
          refine i_if_lt_t rfl (by first | omega | assumption) ?_
          refine i_iconst (n := 0) rfl (by unfold iR; omega) ?_
          -- at 19
          exact i_zreturn rfl rfl (by first | omega | assumption)
        · refine i_aload_n rfl rfl ?_
          refine i_getf rfl rfl rfl rfl (by decide) ?_
          refine i_if_ne_f rfl (by first | omega | assumption) ?_
          refine i_iload_n rfl rfl ?_
          refine i_if_lt_f rfl (by first | omega | assumption) ?_
          refine i_iload_n rfl rfl ?_
          refine i_sipush (n := 200) rfl (by unfold iR; omega) (by decide) ?_
          refine i_icmp_le_f rfl (by first | omega | assumption) ?_
          refine i_iconst (n := 0) rfl (by unfold iR; omega) ?_
          -- at 19
          exact i_zreturn rfl rfl (by first | omega | assumption)
  · refine ⟨0, b, M, M, ?_, ?_, Inv_w h (by omega)⟩
    · refine i_aload_n rfl rfl ?_
      refine i_getr rfl rfl rfl rfl (by decide) rfl ?_
      -- at 4
      refine i_call (T := (34, zp_34)) rfl rfl (c_isStopped (Or.inr a1)) rfl rfl rfl rfl rfl rfl rfl ?_
      try dsimp only
      show irun none zp_11 7 _ [iI (M 1 4)] _ _ 0 0 _
      refine i_if_ne_t rfl (by first | omega | assumption) ?_
      refine i_iconst (n := 0) rfl (by unfold iR; omega) ?_
      -- at 22
      exact i_zreturn rfl rfl (by first | omega | assumption)
    · refine i_aload_n rfl rfl ?_
      refine i_getf rfl rfl rfl rfl (by decide) ?_
      refine i_if_ne_t rfl (by first | omega | assumption) ?_
      refine i_iconst (n := 0) rfl (by unfold iR; omega) ?_
      -- at 19
      exact i_zreturn rfl rfl (by first | omega | assumption)
abbrev zz (f : Nat → Int) : Nat → Int := fun k => if k < 10 then 0 else f k
set_option maxRecDepth 100000 in
theorem c_forget {b : Bool} {M : iM} : irun none zp_70 0 (i_ent [iP 5] 2) [] (SH b) M 0 0 (none, SH b, va_up (va_up M 5 (va_up (va_up (va_up (M 5) 6 0) 7 0) 8 0)) 10 (zz (M 10))) := by
  have loop : ∀ (c k : Nat), k + c = 10 → irun none zp_70 17 [some (iP 5), some (iI (k : Int))] [] (SH b) (va_up (va_up M 5 (va_up (va_up (va_up (M 5) 6 0) 7 0) 8 0)) 10 (fun j => if j < k then 0 else M 10 j)) 0 0 (none, SH b, va_up (va_up M 5 (va_up (va_up (va_up (M 5) 6 0) 7 0) 8 0)) 10 (zz (M 10))) := by
    intro c
    induction c with
    | zero =>
      intro k hk
      obtain rfl : k = 10 := by omega
      refine i_iload_n rfl rfl ?_
      refine i_bipush (n := 10) rfl (by unfold iR; omega) (by decide) ?_
      refine i_icmp_ge_t rfl (by first | omega | assumption) ?_
      -- at 36
      exact i_vreturn rfl rfl
    | succ c ih =>
      intro k hk
      have hn := ih (k + 1) (by omega)
      refine i_iload_n rfl rfl ?_
      refine i_bipush (n := 10) rfl (by unfold iR; omega) (by decide) ?_
      refine i_icmp_ge_f rfl (by first | omega | assumption) ?_
      refine i_aload_n rfl rfl ?_
      refine i_getr rfl rfl rfl rfl (by decide) rfl ?_
      refine i_iload_n rfl rfl ?_
      refine i_iconst (n := 0) rfl (by unfold iR; omega) ?_
      refine i_bast rfl rfl (by first | omega | assumption) (by first | omega | assumption) (by first | omega | assumption) ?_
      refine i_iinc rfl rfl (by unfold iR; omega) (Nat.le_of_ble_eq_true rfl) rfl ?_
      refine i_goto rfl ?_
      -- at 17
      rw [st_up (g := fun j => if j < k + 1 then 0 else M 10 j)]
      · exact hn
      · rw [show (k : Int).toNat = k by omega]
        exact up_step (f := fun _ => 0) rfl
  have h0 := loop 10 0 rfl
  rw [up_id (va_up M 5 (va_up (va_up (va_up (M 5) 6 0) 7 0) 8 0)) 10 (f := fun j => if j < 0 then 0 else M 10 j) (by funext j; rw [if_neg (by omega)]; rfl)] at h0
  refine i_aload_n rfl rfl ?_
  refine i_iconst (n := 0) rfl (by unfold iR; omega) ?_
  refine i_puti rfl rfl rfl rfl ?_
  refine i_aload_n rfl rfl ?_
  refine i_iconst (n := 0) rfl (by unfold iR; omega) ?_
  refine i_puti rfl rfl rfl rfl ?_
  refine i_aload_n rfl rfl ?_
  refine i_iconst (n := 0) rfl (by unfold iR; omega) ?_
  refine i_puti rfl rfl rfl rfl ?_
  refine i_iconst (n := 0) rfl (by unfold iR; omega) ?_
  refine i_istore_n rfl (Nat.le_of_ble_eq_true rfl) rfl ?_
  -- at 17
  rw [show i_st M 5 6 0 = va_up M 5 (va_up (M 5) 6 0) from rfl, up_st, up_st]
  exact h0
set_option maxRecDepth 100000 in
theorem d_clear {b : Bool} {M : iM} : irun none zp_143 0 (i_ent [iP 40] 2) [] (SH b) M 0 0 (none, SH b, va_up (va_up M 40 (va_up (va_up (va_up (M 40) 13 0) 14 0) 15 0)) 49 (zz (M 49))) := by
  have loop : ∀ (c k : Nat), k + c = 10 → irun none zp_143 17 [some (iP 40), some (iI (k : Int))] [] (SH b) (va_up (va_up M 40 (va_up (va_up (va_up (M 40) 13 0) 14 0) 15 0)) 49 (fun j => if j < k then 0 else M 49 j)) 0 0 (none, SH b, va_up (va_up M 40 (va_up (va_up (va_up (M 40) 13 0) 14 0) 15 0)) 49 (zz (M 49))) := by
    intro c
    induction c with
    | zero =>
      intro k hk
      obtain rfl : k = 10 := by omega
      refine i_iload_n rfl rfl ?_
      refine i_bipush (n := 10) rfl (by unfold iR; omega) (by decide) ?_
      refine i_icmp_ge_t rfl (by first | omega | assumption) ?_
      -- at 36
      exact i_vreturn rfl rfl
    | succ c ih =>
      intro k hk
      have hn := ih (k + 1) (by omega)
      refine i_iload_n rfl rfl ?_
      refine i_bipush (n := 10) rfl (by unfold iR; omega) (by decide) ?_
      refine i_icmp_ge_f rfl (by first | omega | assumption) ?_
      refine i_aload_n rfl rfl ?_
      refine i_getr rfl rfl rfl rfl (by decide) rfl ?_
      refine i_iload_n rfl rfl ?_
      refine i_iconst (n := 0) rfl (by unfold iR; omega) ?_
      refine i_bast rfl rfl (by first | omega | assumption) (by first | omega | assumption) (by first | omega | assumption) ?_
      refine i_iinc rfl rfl (by unfold iR; omega) (Nat.le_of_ble_eq_true rfl) rfl ?_
      refine i_goto rfl ?_
      -- at 17
      rw [st_up (g := fun j => if j < k + 1 then 0 else M 49 j)]
      · exact hn
      · rw [show (k : Int).toNat = k by omega]
        exact up_step (f := fun _ => 0) rfl
  have h0 := loop 10 0 rfl
  rw [up_id (va_up M 40 (va_up (va_up (va_up (M 40) 13 0) 14 0) 15 0)) 49 (f := fun j => if j < 0 then 0 else M 49 j) (by funext j; rw [if_neg (by omega)]; rfl)] at h0
  refine i_aload_n rfl rfl ?_
  refine i_iconst (n := 0) rfl (by unfold iR; omega) ?_
  refine i_puti rfl rfl rfl rfl ?_
  refine i_aload_n rfl rfl ?_
  refine i_iconst (n := 0) rfl (by unfold iR; omega) ?_
  refine i_puti rfl rfl rfl rfl ?_
  refine i_aload_n rfl rfl ?_
  refine i_iconst (n := 0) rfl (by unfold iR; omega) ?_
  refine i_puti rfl rfl rfl rfl ?_
  refine i_iconst (n := 0) rfl (by unfold iR; omega) ?_
  refine i_istore_n rfl (Nat.le_of_ble_eq_true rfl) rfl ?_
  -- at 17
  rw [show i_st M 40 13 0 = va_up M 40 (va_up (M 40) 13 0) from rfl, up_st, up_st]
  exact h0
theorem sm_0 {f : Nat → Int} : ∀ {n : Nat}, (∀ k, k < n → f k = 0) → sm f n = 0 := by
  intro n
  induction n with
  | zero => intro _; rfl
  | succ n ih =>
    intro h
    show sm f n + f n = 0
    rw [ih (fun k hk => h k (by omega)), h n (by omega)]
    rfl
theorem sm_b {f : Nat → Int} {B : Int} : ∀ {n : Nat}, (∀ k, k < n → 0 ≤ f k ∧ f k ≤ B) → 0 ≤ sm f n ∧ sm f n ≤ B * n := by
  intro n
  induction n with
  | zero => intro _; simp [sm]
  | succ n ih =>
    intro h
    have h1 := ih (fun k hk => h k (by omega))
    have h2 := h n (by omega)
    show 0 ≤ sm f n + f n ∧ sm f n + f n ≤ B * ((n + 1 : Nat) : Int)
    rw [show ((n + 1 : Nat) : Int) = (n : Int) + 1 by omega, Int.mul_add]
    omega
/-- behind dropped changes the invariant holds -/
theorem Inv_clear {w : Int} {b : Bool} {M : iM} (h : Inv w b M) : Inv w b (va_up (va_up (va_up (va_up M 5 (va_up (va_up (va_up (M 5) 6 0) 7 0) 8 0)) 10 (zz (M 10))) 40 (va_up (va_up (va_up (M 40) 13 0) 14 0) 15 0)) 49 (zz (M 49))) := by
  obtain ⟨h1, h2, h3, h4, h5, h6, h7, h8⟩ := h
  refine ⟨h1, h2, ?_, h4, h5, ?_, ?_, h8⟩
  · cases b <;> exact h3
  · refine ⟨⟨rfl, ?_, ?_⟩, ⟨rfl, rfl⟩, fun k hk => ?_, fun k hk => ?_⟩
    · show (0 : Int) ≤ 0; omega
    · show (0 : Int) ≤ 4; omega
    · have hk : (k : Int) < 0 := hk
      omega
    · have hk : (k : Int) < 0 := hk
      omega
  · have key : ∀ p, ¬ p = 5 → ¬ p = 10 → ¬ p = 40 → ¬ p = 49 → I7 p (va_up (va_up (va_up (va_up M 5 (va_up (va_up (va_up (M 5) 6 0) 7 0) 8 0)) 10 (zz (M 10))) 40 (va_up (va_up (va_up (M 40) 13 0) 14 0) 15 0)) 49 (zz (M 49))) := by
      intro p p1 p2 p3 p4
      refine ⟨⟨rfl, ?_⟩, fun k hk => ?_⟩
      · show (0 : Int) = sm (zz (M 10)) 10
        exact (sm_0 (fun k hk => by show (if k < 10 then _ else _) = _; rw [if_pos hk])).symm
      · have e1 : zz (M 10) k = 0 := by show (if k < 10 then _ else _) = _; rw [if_pos hk]
        have e2 : zz (M 49) k = 0 := by show (if k < 10 then _ else _) = _; rw [if_pos hk]
        refine ⟨?_, ?_, fun _ => e1⟩
        · show zz (M 49) k = zz (M 10) k
          rw [e1, e2]
        · exact Or.inl e1
    cases b <;> exact key _ (by decide) (by decide) (by decide) (by decide)
set_option maxRecDepth 100000 in
theorem o_drop {w : Int} {b : Bool} {M : iM} (h : Inv w b M) : Op w b M zp_4 zp_148 [] := by
  have hi := h
  obtain ⟨-, ⟨a1, a2, -⟩, -, -, -, ⟨⟨e1, e2, e3⟩, -⟩, ⟨⟨e4, e5⟩, e6⟩, -⟩ := hi
  have hs := sm_b (f := M 10) (B := 1) (n := 10) (fun k hk => by have := (e6 k hk).2.1; omega)
  rcases a1 with a1 | a1
  · refine ⟨M 5 6 + M 5 8, b, va_up (va_up M 5 (va_up (va_up (va_up (M 5) 6 0) 7 0) 8 0)) 10 (zz (M 10)), va_up (va_up (va_up (va_up M 5 (va_up (va_up (va_up (M 5) 6 0) 7 0) 8 0)) 10 (zz (M 10))) 40 (va_up (va_up (va_up (M 40) 13 0) 14 0) 15 0)) 49 (zz (M 49)), ?_, ?_, Inv_w (Inv_clear h) (by omega)⟩
    · have hw : irun none zp_69 0 (i_ent [iP 5] 1) [] (SH b) M 0 0 (some (M 5 6 + M 5 8), SH b, M) := by
        refine i_aload_n rfl rfl ?_
        refine i_getf rfl rfl rfl rfl (by decide) ?_
        refine i_aload_n rfl rfl ?_
        refine i_getf rfl rfl rfl rfl (by decide) ?_
        refine i_iadd rfl (by unfold iR; omega) ?_
        -- at 9
        exact i_ireturn rfl rfl
      refine i_aload_n rfl rfl ?_
      refine i_getr rfl rfl rfl rfl (by decide) rfl ?_
      -- at 4
      refine i_call (T := (34, zp_34)) rfl rfl (c_isStopped (Or.inl a1)) rfl rfl rfl rfl rfl rfl rfl ?_
      try dsimp only
      show irun none zp_4 7 _ [iI (M 1 4)] _ _ 0 0 _
      refine i_if_eq_t rfl (by first | omega | assumption) ?_
      refine i_aload_n rfl rfl ?_
      refine i_getr rfl rfl rfl rfl (by decide) rfl ?_
      -- at 17
      refine i_call (T := (69, zp_69)) rfl rfl (hw) rfl rfl rfl rfl rfl rfl rfl ?_
      try dsimp only
      refine i_istore_n rfl (Nat.le_of_ble_eq_true rfl) rfl ?_
      refine i_aload_n rfl rfl ?_
      refine i_getr rfl rfl rfl rfl (by decide) rfl ?_
      -- at 25
      refine i_call (T := (70, zp_70)) rfl rfl (c_forget) rfl rfl rfl rfl rfl rfl rfl ?_
      try dsimp only
      refine i_iload_n rfl rfl ?_
      -- at 29
      exact i_ireturn rfl rfl
    · have a2 : (va_up (va_up M 5 (va_up (va_up (va_up (M 5) 6 0) 7 0) 8 0)) 10 (zz (M 10))) 40 1 = 0 := a2.trans a1
      rw [← e1, ← e4]
      have hr : iR (M 40 13 + M 40 15) := by unfold iR; omega
      refine i_aload_n rfl rfl ?_
      refine i_getf rfl rfl rfl rfl (by decide) ?_
      refine i_if_eq_t rfl (by first | omega | assumption) ?_
      refine i_aload_n rfl rfl ?_
      refine i_getf rfl rfl rfl rfl (by decide) ?_
      refine i_aload_n rfl rfl ?_
      refine i_getf rfl rfl rfl rfl (by decide) ?_
      -- at 18
      refine i_iadd rfl hr ?_
      refine i_istore_n rfl (Nat.le_of_ble_eq_true rfl) rfl ?_
      refine i_aload_n rfl rfl ?_
      -- at 21
      refine i_call (T := (143, zp_143)) rfl rfl (d_clear) rfl rfl rfl rfl rfl rfl rfl ?_
      try dsimp only
      refine i_iload_n rfl rfl ?_
      -- at 25
      exact i_ireturn rfl rfl
  · refine ⟨-9, b, M, M, ?_, ?_, Inv_w h (by omega)⟩
    · refine i_aload_n rfl rfl ?_
      refine i_getr rfl rfl rfl rfl (by decide) rfl ?_
      -- at 4
      refine i_call (T := (34, zp_34)) rfl rfl (c_isStopped (Or.inr a1)) rfl rfl rfl rfl rfl rfl rfl ?_
      try dsimp only
      show irun none zp_4 7 _ [iI (M 1 4)] _ _ 0 0 _
      refine i_if_eq_f rfl (by first | omega | assumption) ?_
      refine i_bipush (n := -9) rfl (by unfold iR; omega) (by decide) ?_
      -- at 12
      exact i_ireturn rfl rfl
    · refine i_aload_n rfl rfl ?_
      refine i_getf rfl rfl rfl rfl (by decide) ?_
      refine i_if_eq_f rfl (by first | omega | assumption) ?_
      refine i_bipush (n := -9) rfl (by unfold iR; omega) (by decide) ?_
      -- at 9
      exact i_ireturn rfl rfl

theorem lsh_b (w : Int64) (k : Nat) (hk : k < 8) : ((w.toUInt64 >>> ((Int32.ofInt (8 * (k : Int))).toInt64.toUInt64 &&& Int64.toUInt64 63)).toInt64 &&& Int64.ofNat 255) = (w >>> ((Int32.ofInt (8 * (k : Int))).toInt64 &&& 63)) &&& Int64.ofNat 255 := by
  have e1 : Int32.ofInt (8 * (k : Int)) = nI (8 * k) := by
    rw [i_ofN]
    congr 1
  rw [e1]
  have hs : ((nI (8 * k)).toInt64 &&& 63).toBitVec.smod 64 = BitVec.ofNat 64 (8 * k) ∧ ((nI (8 * k)).toInt64.toUInt64 &&& Int64.toUInt64 63) = UInt64.ofNat (8 * k) := by
    have : ∀ k, k < 8 → ((nI (8 * k)).toInt64 &&& 63).toBitVec.smod 64 = BitVec.ofNat 64 (8 * k) ∧ ((nI (8 * k)).toInt64.toUInt64 &&& Int64.toUInt64 63) = UInt64.ofNat (8 * k) := by decide +kernel
    exact this k hk
  apply Int64.toBitVec.inj
  show ((w.toUInt64 >>> ((nI (8 * k)).toInt64.toUInt64 &&& Int64.toUInt64 63)).toBitVec &&& _) = (BitVec.sshiftRight' w.toBitVec (((nI (8 * k)).toInt64 &&& 63).toBitVec.smod 64) &&& _)
  rw [hs.1, hs.2]
  apply BitVec.eq_of_getLsbD_eq
  intro i hi
  have h255 : ∀ i, i < 64 → (Int64.ofNat 255).toBitVec.getLsbD i = decide (i < 8) := by decide +kernel
  rw [BitVec.getLsbD_and, BitVec.getLsbD_and, h255 i hi]
  by_cases h8 : i < 8
  · have e2 : (UInt64.ofNat (8 * k)).toBitVec = BitVec.ofNat 64 (8 * k) := rfl
    have e3 : ∀ k, k < 8 → ((UInt64.ofNat (8 * k)).toBitVec % 64#64).toNat = 8 * k := by decide +kernel
    have e4 : ∀ k, k < 8 → (BitVec.ofNat 64 (8 * k)).toNat = 8 * k := by decide +kernel
    show ((w.toBitVec >>> ((UInt64.ofNat (8 * k)).toBitVec % 64#64)).getLsbD i && _) = _
    rw [BitVec.ushiftRight_eq', BitVec.getLsbD_ushiftRight, e3 k hk]
    rw [BitVec.sshiftRight', e4 k hk, BitVec.getLsbD_sshiftRight]
    have : 8 * k + i < 64 := by omega
    simp [h8, this]
    omega
  · simp [h8]
theorem lsh_r (x : Int64) : 0 ≤ (x &&& Int64.ofNat 255).toInt32.toInt ∧ (x &&& Int64.ofNat 255).toInt32.toInt < 256 := by
  have h : (x &&& Int64.ofNat 255).toInt32.toBitVec.toNat < 256 := by
    show (BitVec.signExtend 32 (x.toBitVec &&& (Int64.ofNat 255).toBitVec)).toNat < 256
    rw [BitVec.signExtend_eq_setWidth_of_le _ (by decide), BitVec.toNat_setWidth]
    have h1 : (x.toBitVec &&& (Int64.ofNat 255).toBitVec).toNat ≤ 255 := by
      rw [BitVec.toNat_and]
      exact Nat.le_trans Nat.and_le_right (by decide)
    have := Nat.mod_le (x.toBitVec &&& (Int64.ofNat 255).toBitVec).toNat (2 ^ 32)
    omega
  have e : (x &&& Int64.ofNat 255).toInt32.toInt = ((x &&& Int64.ofNat 255).toInt32.toBitVec.toNat : Int) := by
    show (x &&& Int64.ofNat 255).toInt32.toBitVec.toInt = _
    rw [BitVec.toInt_eq_toNat_cond, if_pos (by omega)]
  omega
