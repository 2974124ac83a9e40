set_option maxRecDepth 100000 in
theorem c_rises {b : Bool} {M : iM} {p k : Nat} {a v : Int} (hp : p = 36 ∨ p = 38) (hk : k < 10) : irun none zp_62 0 (i_ent [iP p, iI (k : Int), iI a, iI v] 4) [] (SH b) M 0 0 (some (bz (ls (M (p + 1)) k a v)), SH b, M) := by
  rcases hp with rfl | rfl
  · have w0 := c_word (b := b) (M := M) (p := 36) (k := k) (u := 0) (by decide) hk (by decide)
    have w1 := c_word (b := b) (M := M) (p := 36) (k := k) (u := 1) (by decide) hk (by decide)
    by_cases c1 : M (36 + 1) (7 * k) < a
    · rw [bz_t (show ls _ _ _ _ from Or.inl c1)]
      refine i_aload_n rfl rfl ?_
      refine i_iload_n rfl rfl ?_
      refine i_iconst (n := 0) rfl (by unfold iR; omega) ?_
      -- at 3
      refine i_call (T := (55, zp_55)) rfl rfl (w0) rfl rfl rfl rfl rfl rfl rfl ?_
      try dsimp only
      show irun none zp_62 6 _ (iI (M (36 + 1) (7 * k)) :: _) _ _ 0 0 _
      refine i_iload_n rfl rfl ?_
      refine i_icmp_lt_t rfl (by first | omega | assumption) ?_
      refine i_iconst (n := 1) rfl (by unfold iR; omega) ?_
      refine i_goto rfl ?_
      -- at 35
      exact i_zreturn rfl rfl (by first | omega | assumption)
    · by_cases c2 : M (36 + 1) (7 * k) = a
      · by_cases c3 : M (36 + 1) (7 * k + 1) < v
        · rw [bz_t (show ls _ _ _ _ from Or.inr ⟨c2, c3⟩)]
          refine i_aload_n rfl rfl ?_
          refine i_iload_n rfl rfl ?_
          refine i_iconst (n := 0) rfl (by unfold iR; omega) ?_
          -- at 3
          refine i_call (T := (55, zp_55)) rfl rfl (w0) rfl rfl rfl rfl rfl rfl rfl ?_
          try dsimp only
          show irun none zp_62 6 _ (iI (M (36 + 1) (7 * k)) :: _) _ _ 0 0 _
          refine i_iload_n rfl rfl ?_
          refine i_icmp_lt_f rfl (by first | omega | assumption) ?_
          refine i_aload_n rfl rfl ?_
          refine i_iload_n rfl rfl ?_
          refine i_iconst (n := 0) rfl (by unfold iR; omega) ?_
          -- at 13
          refine i_call (T := (55, zp_55)) rfl rfl (w0) rfl rfl rfl rfl rfl rfl rfl ?_
          try dsimp only
          show irun none zp_62 16 _ (iI (M (36 + 1) (7 * k)) :: _) _ _ 0 0 _
          refine i_iload_n rfl rfl ?_
          refine i_icmp_ne_f rfl (by first | omega | assumption) ?_
          refine i_aload_n rfl rfl ?_
          refine i_iload_n rfl rfl ?_
          refine i_iconst (n := 1) rfl (by unfold iR; omega) ?_
          -- at 23
          refine i_call (T := (55, zp_55)) rfl rfl (w1) rfl rfl rfl rfl rfl rfl rfl ?_
          try dsimp only
          show irun none zp_62 26 _ (iI (M (36 + 1) (7 * k + 1)) :: _) _ _ 0 0 _
          refine i_iload_n rfl rfl ?_
          refine i_icmp_ge_f rfl (by first | omega | assumption) ?_
          refine i_iconst (n := 1) rfl (by unfold iR; omega) ?_
          refine i_goto rfl ?_
          -- at 35
          exact i_zreturn rfl rfl (by first | omega | assumption)
        · rw [bz_f (by unfold ls; omega)]
          refine i_aload_n rfl rfl ?_
          refine i_iload_n rfl rfl ?_
          refine i_iconst (n := 0) rfl (by unfold iR; omega) ?_
          -- at 3
          refine i_call (T := (55, zp_55)) rfl rfl (w0) rfl rfl rfl rfl rfl rfl rfl ?_
          try dsimp only
          show irun none zp_62 6 _ (iI (M (36 + 1) (7 * k)) :: _) _ _ 0 0 _
          refine i_iload_n rfl rfl ?_
          refine i_icmp_lt_f rfl (by first | omega | assumption) ?_
          refine i_aload_n rfl rfl ?_
          refine i_iload_n rfl rfl ?_
          refine i_iconst (n := 0) rfl (by unfold iR; omega) ?_
          -- at 13
          refine i_call (T := (55, zp_55)) rfl rfl (w0) rfl rfl rfl rfl rfl rfl rfl ?_
          try dsimp only
          show irun none zp_62 16 _ (iI (M (36 + 1) (7 * k)) :: _) _ _ 0 0 _
          refine i_iload_n rfl rfl ?_
          refine i_icmp_ne_f rfl (by first | omega | assumption) ?_
          refine i_aload_n rfl rfl ?_
          refine i_iload_n rfl rfl ?_
          refine i_iconst (n := 1) rfl (by unfold iR; omega) ?_
          -- at 23
          refine i_call (T := (55, zp_55)) rfl rfl (w1) rfl rfl rfl rfl rfl rfl rfl ?_
          try dsimp only
          show irun none zp_62 26 _ (iI (M (36 + 1) (7 * k + 1)) :: _) _ _ 0 0 _
          refine i_iload_n rfl rfl ?_
          refine i_icmp_ge_t rfl (by first | omega | assumption) ?_
          refine i_iconst (n := 0) rfl (by unfold iR; omega) ?_
          -- at 35
          exact i_zreturn rfl rfl (by first | omega | assumption)
      · rw [bz_f (by unfold ls; omega)]
        refine i_aload_n rfl rfl ?_
        refine i_iload_n rfl rfl ?_
        refine i_iconst (n := 0) rfl (by unfold iR; omega) ?_
        -- at 3
        refine i_call (T := (55, zp_55)) rfl rfl (w0) rfl rfl rfl rfl rfl rfl rfl ?_
        try dsimp only
        show irun none zp_62 6 _ (iI (M (36 + 1) (7 * k)) :: _) _ _ 0 0 _
        refine i_iload_n rfl rfl ?_
        refine i_icmp_lt_f rfl (by first | omega | assumption) ?_
        refine i_aload_n rfl rfl ?_
        refine i_iload_n rfl rfl ?_
        refine i_iconst (n := 0) rfl (by unfold iR; omega) ?_
        -- at 13
        refine i_call (T := (55, zp_55)) rfl rfl (w0) rfl rfl rfl rfl rfl rfl rfl ?_
        try dsimp only
        show irun none zp_62 16 _ (iI (M (36 + 1) (7 * k)) :: _) _ _ 0 0 _
        refine i_iload_n rfl rfl ?_
        refine i_icmp_ne_t rfl (by first | omega | assumption) ?_
        refine i_iconst (n := 0) rfl (by unfold iR; omega) ?_
        -- at 35
        exact i_zreturn rfl rfl (by first | omega | assumption)
  · have w0 := c_word (b := b) (M := M) (p := 38) (k := k) (u := 0) (by decide) hk (by decide)
    have w1 := c_word (b := b) (M := M) (p := 38) (k := k) (u := 1) (by decide) hk (by decide)
    by_cases c1 : M (38 + 1) (7 * k) < a
    · rw [bz_t (show ls _ _ _ _ from Or.inl c1)]
      refine i_aload_n rfl rfl ?_
      refine i_iload_n rfl rfl ?_
      refine i_iconst (n := 0) rfl (by unfold iR; omega) ?_
      -- at 3
      refine i_call (T := (55, zp_55)) rfl rfl (w0) rfl rfl rfl rfl rfl rfl rfl ?_
      try dsimp only
      show irun none zp_62 6 _ (iI (M (38 + 1) (7 * k)) :: _) _ _ 0 0 _
      refine i_iload_n rfl rfl ?_
      refine i_icmp_lt_t rfl (by first | omega | assumption) ?_
      refine i_iconst (n := 1) rfl (by unfold iR; omega) ?_
      refine i_goto rfl ?_
      -- at 35
      exact i_zreturn rfl rfl (by first | omega | assumption)
    · by_cases c2 : M (38 + 1) (7 * k) = a
      · by_cases c3 : M (38 + 1) (7 * k + 1) < v
        · rw [bz_t (show ls _ _ _ _ from Or.inr ⟨c2, c3⟩)]
          refine i_aload_n rfl rfl ?_
          refine i_iload_n rfl rfl ?_
          refine i_iconst (n := 0) rfl (by unfold iR; omega) ?_
          -- at 3
          refine i_call (T := (55, zp_55)) rfl rfl (w0) rfl rfl rfl rfl rfl rfl rfl ?_
          try dsimp only
          show irun none zp_62 6 _ (iI (M (38 + 1) (7 * k)) :: _) _ _ 0 0 _
          refine i_iload_n rfl rfl ?_
          refine i_icmp_lt_f rfl (by first | omega | assumption) ?_
          refine i_aload_n rfl rfl ?_
          refine i_iload_n rfl rfl ?_
          refine i_iconst (n := 0) rfl (by unfold iR; omega) ?_
          -- at 13
          refine i_call (T := (55, zp_55)) rfl rfl (w0) rfl rfl rfl rfl rfl rfl rfl ?_
          try dsimp only
          show irun none zp_62 16 _ (iI (M (38 + 1) (7 * k)) :: _) _ _ 0 0 _
          refine i_iload_n rfl rfl ?_
          refine i_icmp_ne_f rfl (by first | omega | assumption) ?_
          refine i_aload_n rfl rfl ?_
          refine i_iload_n rfl rfl ?_
          refine i_iconst (n := 1) rfl (by unfold iR; omega) ?_
          -- at 23
          refine i_call (T := (55, zp_55)) rfl rfl (w1) rfl rfl rfl rfl rfl rfl rfl ?_
          try dsimp only
          show irun none zp_62 26 _ (iI (M (38 + 1) (7 * k + 1)) :: _) _ _ 0 0 _
          refine i_iload_n rfl rfl ?_
          refine i_icmp_ge_f rfl (by first | omega | assumption) ?_
          refine i_iconst (n := 1) rfl (by unfold iR; omega) ?_
          refine i_goto rfl ?_
          -- at 35
          exact i_zreturn rfl rfl (by first | omega | assumption)
        · rw [bz_f (by unfold ls; omega)]
          refine i_aload_n rfl rfl ?_
          refine i_iload_n rfl rfl ?_
          refine i_iconst (n := 0) rfl (by unfold iR; omega) ?_
          -- at 3
          refine i_call (T := (55, zp_55)) rfl rfl (w0) rfl rfl rfl rfl rfl rfl rfl ?_
          try dsimp only
          show irun none zp_62 6 _ (iI (M (38 + 1) (7 * k)) :: _) _ _ 0 0 _
          refine i_iload_n rfl rfl ?_
          refine i_icmp_lt_f rfl (by first | omega | assumption) ?_
          refine i_aload_n rfl rfl ?_
          refine i_iload_n rfl rfl ?_
          refine i_iconst (n := 0) rfl (by unfold iR; omega) ?_
          -- at 13
          refine i_call (T := (55, zp_55)) rfl rfl (w0) rfl rfl rfl rfl rfl rfl rfl ?_
          try dsimp only
          show irun none zp_62 16 _ (iI (M (38 + 1) (7 * k)) :: _) _ _ 0 0 _
          refine i_iload_n rfl rfl ?_
          refine i_icmp_ne_f rfl (by first | omega | assumption) ?_
          refine i_aload_n rfl rfl ?_
          refine i_iload_n rfl rfl ?_
          refine i_iconst (n := 1) rfl (by unfold iR; omega) ?_
          -- at 23
          refine i_call (T := (55, zp_55)) rfl rfl (w1) rfl rfl rfl rfl rfl rfl rfl ?_
          try dsimp only
          show irun none zp_62 26 _ (iI (M (38 + 1) (7 * k + 1)) :: _) _ _ 0 0 _
          refine i_iload_n rfl rfl ?_
          refine i_icmp_ge_t rfl (by first | omega | assumption) ?_
          refine i_iconst (n := 0) rfl (by unfold iR; omega) ?_
          -- at 35
          exact i_zreturn rfl rfl (by first | omega | assumption)
      · rw [bz_f (by unfold ls; omega)]
        refine i_aload_n rfl rfl ?_
        refine i_iload_n rfl rfl ?_
        refine i_iconst (n := 0) rfl (by unfold iR; omega) ?_
        -- at 3
        refine i_call (T := (55, zp_55)) rfl rfl (w0) rfl rfl rfl rfl rfl rfl rfl ?_
        try dsimp only
        show irun none zp_62 6 _ (iI (M (38 + 1) (7 * k)) :: _) _ _ 0 0 _
        refine i_iload_n rfl rfl ?_
        refine i_icmp_lt_f rfl (by first | omega | assumption) ?_
        refine i_aload_n rfl rfl ?_
        refine i_iload_n rfl rfl ?_
        refine i_iconst (n := 0) rfl (by unfold iR; omega) ?_
        -- at 13
        refine i_call (T := (55, zp_55)) rfl rfl (w0) rfl rfl rfl rfl rfl rfl rfl ?_
        try dsimp only
        show irun none zp_62 16 _ (iI (M (38 + 1) (7 * k)) :: _) _ _ 0 0 _
        refine i_iload_n rfl rfl ?_
        refine i_icmp_ne_t rfl (by first | omega | assumption) ?_
        refine i_iconst (n := 0) rfl (by unfold iR; omega) ?_
        -- at 35
        exact i_zreturn rfl rfl (by first | omega | assumption)
set_option maxRecDepth 100000 in
theorem c_sound {b : Bool} {M : iM} {p k : Nat} (hp : p = 36 ∨ p = 38) (hk : k < 10) (hb : ∀ u, u < 7 → 0 ≤ M (p + 1) (7 * k + u) ∧ M (p + 1) (7 * k + u) < 256) : irun none zp_67 0 (i_ent [iP p, iI (k : Int)] 2) [] (SH b) M 0 0 (some (bz (en (M (p + 1)) k)), SH b, M) := by
  rcases hp with rfl | rfl
  · have w0 := c_word (b := b) (M := M) (p := 36) (k := k) (u := 0) (by decide) hk (by decide)
    have w1 := c_word (b := b) (M := M) (p := 36) (k := k) (u := 1) (by decide) hk (by decide)
    have w2 := c_word (b := b) (M := M) (p := 36) (k := k) (u := 2) (by decide) hk (by decide)
    have w3 := c_word (b := b) (M := M) (p := 36) (k := k) (u := 3) (by decide) hk (by decide)
    have w5 := c_word (b := b) (M := M) (p := 36) (k := k) (u := 5) (by decide) hk (by decide)
    have fr := c_areFree (sh := SH b) (M := M) (hb 2 (by decide)) (hb 3 (by decide))
    by_cases c0 : M (36 + 1) (7 * k) < 8
    · by_cases c1 : 0 < M (36 + 1) (7 * k + 1)
      · by_cases c5 : M (36 + 1) (7 * k + 5) ≤ 24
        · by_cases c2 : (2 ≤ M (36 + 1) (7 * k + 2) ∧ 1 ≤ M (36 + 1) (7 * k + 3) ∧ M (36 + 1) (7 * k + 2) + M (36 + 1) (7 * k + 3) ≤ 48)
          · by_cases c4 : k = 0
            · rw [bz_t (show en _ _ from ⟨c0, c1, c5, c2, Or.inl c4⟩)]
              refine i_aload_n rfl rfl ?_
              refine i_iload_n rfl rfl ?_
              refine i_iconst (n := 0) rfl (by unfold iR; omega) ?_
              -- at 3
              refine i_call (T := (55, zp_55)) rfl rfl (w0) rfl rfl rfl rfl rfl rfl rfl ?_
              try dsimp only
              show irun none zp_67 6 _ (iI (M (36 + 1) (7 * k)) :: _) _ _ 0 0 _
              refine i_bipush (n := 8) rfl (by unfold iR; omega) (by decide) ?_
              refine i_icmp_ge_f rfl (by first | omega | assumption) ?_
              refine i_aload_n rfl rfl ?_
              refine i_iload_n rfl rfl ?_
              refine i_iconst (n := 1) rfl (by unfold iR; omega) ?_
              -- at 14
              refine i_call (T := (55, zp_55)) rfl rfl (w1) rfl rfl rfl rfl rfl rfl rfl ?_
              try dsimp only
              show irun none zp_67 17 _ (iI (M (36 + 1) (7 * k + 1)) :: _) _ _ 0 0 _
              refine i_if_le_f rfl (by first | omega | assumption) ?_
              refine i_aload_n rfl rfl ?_
              refine i_iload_n rfl rfl ?_
              refine i_iconst (n := 5) rfl (by unfold iR; omega) ?_
              -- at 23
              refine i_call (T := (55, zp_55)) rfl rfl (w5) rfl rfl rfl rfl rfl rfl rfl ?_
              try dsimp only
              show irun none zp_67 26 _ (iI (M (36 + 1) (7 * k + 5)) :: _) _ _ 0 0 _
              refine i_bipush (n := 24) rfl (by unfold iR; omega) (by decide) ?_
              refine i_icmp_gt_f rfl (by first | omega | assumption) ?_
              refine i_aload_n rfl rfl ?_
              refine i_iload_n rfl rfl ?_
              refine i_iconst (n := 2) rfl (by unfold iR; omega) ?_
              -- at 34
              refine i_call (T := (55, zp_55)) rfl rfl (w2) rfl rfl rfl rfl rfl rfl rfl ?_
              try dsimp only
              show irun none zp_67 37 _ (iI (M (36 + 1) (7 * k + 2)) :: _) _ _ 0 0 _
              refine i_aload_n rfl rfl ?_
              refine i_iload_n rfl rfl ?_
              refine i_iconst (n := 3) rfl (by unfold iR; omega) ?_
              -- at 40
              refine i_call (T := (55, zp_55)) rfl rfl (w3) rfl rfl rfl rfl rfl rfl rfl ?_
              try dsimp only
              show irun none zp_67 43 _ (iI (M (36 + 1) (7 * k + 3)) :: _) _ _ 0 0 _
              refine i_call (T := (31, zp_31)) rfl rfl (fr) rfl rfl rfl rfl rfl rfl rfl ?_
              try dsimp only
              show irun none zp_67 46 _ (iI (bz _) :: _) _ _ 0 0 _
              rw [bz_t c2]
              refine i_if_eq_f rfl (by first | omega | assumption) ?_
              refine i_iload_n rfl rfl ?_
              refine i_if_eq_t rfl (by first | omega | assumption) ?_
              refine i_iconst (n := 1) rfl (by unfold iR; omega) ?_
              refine i_goto rfl ?_
              -- at 80
              exact i_zreturn rfl rfl (by first | omega | assumption)
            · have ri := c_rises (b := b) (M := M) (p := 36) (k := k - 1) (a := M (36 + 1) (7 * k)) (v := M (36 + 1) (7 * k + 1)) (by decide) (by omega)
              rw [show ((k - 1 : Nat) : Int) = (k : Int) - 1 by omega] at ri
              by_cases c6 : ls (M (36 + 1)) (k - 1) (M (36 + 1) (7 * k)) (M (36 + 1) (7 * k + 1))
              · rw [bz_t (show en _ _ from ⟨c0, c1, c5, c2, Or.inr c6⟩)]
                refine i_aload_n rfl rfl ?_
                refine i_iload_n rfl rfl ?_
                refine i_iconst (n := 0) rfl (by unfold iR; omega) ?_
                -- at 3
                refine i_call (T := (55, zp_55)) rfl rfl (w0) rfl rfl rfl rfl rfl rfl rfl ?_
                try dsimp only
                show irun none zp_67 6 _ (iI (M (36 + 1) (7 * k)) :: _) _ _ 0 0 _
                refine i_bipush (n := 8) rfl (by unfold iR; omega) (by decide) ?_
                refine i_icmp_ge_f rfl (by first | omega | assumption) ?_
                refine i_aload_n rfl rfl ?_
                refine i_iload_n rfl rfl ?_
                refine i_iconst (n := 1) rfl (by unfold iR; omega) ?_
                -- at 14
                refine i_call (T := (55, zp_55)) rfl rfl (w1) rfl rfl rfl rfl rfl rfl rfl ?_
                try dsimp only
                show irun none zp_67 17 _ (iI (M (36 + 1) (7 * k + 1)) :: _) _ _ 0 0 _
                refine i_if_le_f rfl (by first | omega | assumption) ?_
                refine i_aload_n rfl rfl ?_
                refine i_iload_n rfl rfl ?_
                refine i_iconst (n := 5) rfl (by unfold iR; omega) ?_
                -- at 23
                refine i_call (T := (55, zp_55)) rfl rfl (w5) rfl rfl rfl rfl rfl rfl rfl ?_
                try dsimp only
                show irun none zp_67 26 _ (iI (M (36 + 1) (7 * k + 5)) :: _) _ _ 0 0 _
                refine i_bipush (n := 24) rfl (by unfold iR; omega) (by decide) ?_
                refine i_icmp_gt_f rfl (by first | omega | assumption) ?_
                refine i_aload_n rfl rfl ?_
                refine i_iload_n rfl rfl ?_
                refine i_iconst (n := 2) rfl (by unfold iR; omega) ?_
                -- at 34
                refine i_call (T := (55, zp_55)) rfl rfl (w2) rfl rfl rfl rfl rfl rfl rfl ?_
                try dsimp only
                show irun none zp_67 37 _ (iI (M (36 + 1) (7 * k + 2)) :: _) _ _ 0 0 _
                refine i_aload_n rfl rfl ?_
                refine i_iload_n rfl rfl ?_
                refine i_iconst (n := 3) rfl (by unfold iR; omega) ?_
                -- at 40
                refine i_call (T := (55, zp_55)) rfl rfl (w3) rfl rfl rfl rfl rfl rfl rfl ?_
                try dsimp only
                show irun none zp_67 43 _ (iI (M (36 + 1) (7 * k + 3)) :: _) _ _ 0 0 _
                refine i_call (T := (31, zp_31)) rfl rfl (fr) rfl rfl rfl rfl rfl rfl rfl ?_
                try dsimp only
                show irun none zp_67 46 _ (iI (bz _) :: _) _ _ 0 0 _
                rw [bz_t c2]
                refine i_if_eq_f rfl (by first | omega | assumption) ?_
                refine i_iload_n rfl rfl ?_
                refine i_if_eq_f rfl (by first | omega | assumption) ?_
                refine i_aload_n rfl rfl ?_
                refine i_iload_n rfl rfl ?_
                refine i_iconst (n := 1) rfl (by unfold iR; omega) ?_
                refine i_isub rfl (by unfold iR; omega) ?_
                refine i_aload_n rfl rfl ?_
                refine i_iload_n rfl rfl ?_
                refine i_iconst (n := 0) rfl (by unfold iR; omega) ?_
                -- at 60
                refine i_call (T := (55, zp_55)) rfl rfl (w0) rfl rfl rfl rfl rfl rfl rfl ?_
                try dsimp only
                show irun none zp_67 63 _ (iI (M (36 + 1) (7 * k)) :: _) _ _ 0 0 _
                refine i_aload_n rfl rfl ?_
                refine i_iload_n rfl rfl ?_
                refine i_iconst (n := 1) rfl (by unfold iR; omega) ?_
                -- at 66
                refine i_call (T := (55, zp_55)) rfl rfl (w1) rfl rfl rfl rfl rfl rfl rfl ?_
                try dsimp only
                show irun none zp_67 69 _ (iI (M (36 + 1) (7 * k + 1)) :: _) _ _ 0 0 _
                refine i_call (T := (62, zp_62)) rfl rfl (ri) rfl rfl rfl rfl rfl rfl rfl ?_
                try dsimp only
                show irun none zp_67 72 _ (iI (bz _) :: _) _ _ 0 0 _
                rw [bz_t c6]
                refine i_if_eq_f rfl (by first | omega | assumption) ?_
                refine i_iconst (n := 1) rfl (by unfold iR; omega) ?_
                refine i_goto rfl ?_
                -- at 80
                exact i_zreturn rfl rfl (by first | omega | assumption)
              · rw [bz_f (fun q => q.2.2.2.2.elim c4 c6)]
                refine i_aload_n rfl rfl ?_
                refine i_iload_n rfl rfl ?_
                refine i_iconst (n := 0) rfl (by unfold iR; omega) ?_
                -- at 3
                refine i_call (T := (55, zp_55)) rfl rfl (w0) rfl rfl rfl rfl rfl rfl rfl ?_
                try dsimp only
                show irun none zp_67 6 _ (iI (M (36 + 1) (7 * k)) :: _) _ _ 0 0 _
                refine i_bipush (n := 8) rfl (by unfold iR; omega) (by decide) ?_
                refine i_icmp_ge_f rfl (by first | omega | assumption) ?_
                refine i_aload_n rfl rfl ?_
                refine i_iload_n rfl rfl ?_
                refine i_iconst (n := 1) rfl (by unfold iR; omega) ?_
                -- at 14
                refine i_call (T := (55, zp_55)) rfl rfl (w1) rfl rfl rfl rfl rfl rfl rfl ?_
                try dsimp only
                show irun none zp_67 17 _ (iI (M (36 + 1) (7 * k + 1)) :: _) _ _ 0 0 _
                refine i_if_le_f rfl (by first | omega | assumption) ?_
                refine i_aload_n rfl rfl ?_
                refine i_iload_n rfl rfl ?_
                refine i_iconst (n := 5) rfl (by unfold iR; omega) ?_
                -- at 23
                refine i_call (T := (55, zp_55)) rfl rfl (w5) rfl rfl rfl rfl rfl rfl rfl ?_
                try dsimp only
                show irun none zp_67 26 _ (iI (M (36 + 1) (7 * k + 5)) :: _) _ _ 0 0 _
                refine i_bipush (n := 24) rfl (by unfold iR; omega) (by decide) ?_
                refine i_icmp_gt_f rfl (by first | omega | assumption) ?_
                refine i_aload_n rfl rfl ?_
                refine i_iload_n rfl rfl ?_
                refine i_iconst (n := 2) rfl (by unfold iR; omega) ?_
                -- at 34
                refine i_call (T := (55, zp_55)) rfl rfl (w2) rfl rfl rfl rfl rfl rfl rfl ?_
                try dsimp only
                show irun none zp_67 37 _ (iI (M (36 + 1) (7 * k + 2)) :: _) _ _ 0 0 _
                refine i_aload_n rfl rfl ?_
                refine i_iload_n rfl rfl ?_
                refine i_iconst (n := 3) rfl (by unfold iR; omega) ?_
                -- at 40
                refine i_call (T := (55, zp_55)) rfl rfl (w3) rfl rfl rfl rfl rfl rfl rfl ?_
                try dsimp only
                show irun none zp_67 43 _ (iI (M (36 + 1) (7 * k + 3)) :: _) _ _ 0 0 _
                refine i_call (T := (31, zp_31)) rfl rfl (fr) rfl rfl rfl rfl rfl rfl rfl ?_
                try dsimp only
                show irun none zp_67 46 _ (iI (bz _) :: _) _ _ 0 0 _
                rw [bz_t c2]
                refine i_if_eq_f rfl (by first | omega | assumption) ?_
                refine i_iload_n rfl rfl ?_
                refine i_if_eq_f rfl (by first | omega | assumption) ?_
                refine i_aload_n rfl rfl ?_
                refine i_iload_n rfl rfl ?_
                refine i_iconst (n := 1) rfl (by unfold iR; omega) ?_
                refine i_isub rfl (by unfold iR; omega) ?_
                refine i_aload_n rfl rfl ?_
                refine i_iload_n rfl rfl ?_
                refine i_iconst (n := 0) rfl (by unfold iR; omega) ?_
                -- at 60
                refine i_call (T := (55, zp_55)) rfl rfl (w0) rfl rfl rfl rfl rfl rfl rfl ?_
                try dsimp only
                show irun none zp_67 63 _ (iI (M (36 + 1) (7 * k)) :: _) _ _ 0 0 _
                refine i_aload_n rfl rfl ?_
                refine i_iload_n rfl rfl ?_
                refine i_iconst (n := 1) rfl (by unfold iR; omega) ?_
                -- at 66
                refine i_call (T := (55, zp_55)) rfl rfl (w1) rfl rfl rfl rfl rfl rfl rfl ?_
                try dsimp only
                show irun none zp_67 69 _ (iI (M (36 + 1) (7 * k + 1)) :: _) _ _ 0 0 _
                refine i_call (T := (62, zp_62)) rfl rfl (ri) rfl rfl rfl rfl rfl rfl rfl ?_
                try dsimp only
                show irun none zp_67 72 _ (iI (bz _) :: _) _ _ 0 0 _
                rw [bz_f c6]
                refine i_if_eq_t rfl (by first | omega | assumption) ?_
                refine i_iconst (n := 0) rfl (by unfold iR; omega) ?_
                -- at 80
                exact i_zreturn rfl rfl (by first | omega | assumption)
          · rw [bz_f (fun q => c2 q.2.2.2.1)]
            refine i_aload_n rfl rfl ?_
            refine i_iload_n rfl rfl ?_
            refine i_iconst (n := 0) rfl (by unfold iR; omega) ?_
            -- at 3
            refine i_call (T := (55, zp_55)) rfl rfl (w0) rfl rfl rfl rfl rfl rfl rfl ?_
            try dsimp only
            show irun none zp_67 6 _ (iI (M (36 + 1) (7 * k)) :: _) _ _ 0 0 _
            refine i_bipush (n := 8) rfl (by unfold iR; omega) (by decide) ?_
            refine i_icmp_ge_f rfl (by first | omega | assumption) ?_
            refine i_aload_n rfl rfl ?_
            refine i_iload_n rfl rfl ?_
            refine i_iconst (n := 1) rfl (by unfold iR; omega) ?_
            -- at 14
            refine i_call (T := (55, zp_55)) rfl rfl (w1) rfl rfl rfl rfl rfl rfl rfl ?_
            try dsimp only
            show irun none zp_67 17 _ (iI (M (36 + 1) (7 * k + 1)) :: _) _ _ 0 0 _
            refine i_if_le_f rfl (by first | omega | assumption) ?_
            refine i_aload_n rfl rfl ?_
            refine i_iload_n rfl rfl ?_
            refine i_iconst (n := 5) rfl (by unfold iR; omega) ?_
            -- at 23
            refine i_call (T := (55, zp_55)) rfl rfl (w5) rfl rfl rfl rfl rfl rfl rfl ?_
            try dsimp only
            show irun none zp_67 26 _ (iI (M (36 + 1) (7 * k + 5)) :: _) _ _ 0 0 _
            refine i_bipush (n := 24) rfl (by unfold iR; omega) (by decide) ?_
            refine i_icmp_gt_f rfl (by first | omega | assumption) ?_
            refine i_aload_n rfl rfl ?_
            refine i_iload_n rfl rfl ?_
            refine i_iconst (n := 2) rfl (by unfold iR; omega) ?_
            -- at 34
            refine i_call (T := (55, zp_55)) rfl rfl (w2) rfl rfl rfl rfl rfl rfl rfl ?_
            try dsimp only
            show irun none zp_67 37 _ (iI (M (36 + 1) (7 * k + 2)) :: _) _ _ 0 0 _
            refine i_aload_n rfl rfl ?_
            refine i_iload_n rfl rfl ?_
            refine i_iconst (n := 3) rfl (by unfold iR; omega) ?_
            -- at 40
            refine i_call (T := (55, zp_55)) rfl rfl (w3) rfl rfl rfl rfl rfl rfl rfl ?_
            try dsimp only
            show irun none zp_67 43 _ (iI (M (36 + 1) (7 * k + 3)) :: _) _ _ 0 0 _
            refine i_call (T := (31, zp_31)) rfl rfl (fr) rfl rfl rfl rfl rfl rfl rfl ?_
            try dsimp only
            show irun none zp_67 46 _ (iI (bz _) :: _) _ _ 0 0 _
            rw [bz_f c2]
            refine i_if_eq_t rfl (by first | omega | assumption) ?_
            refine i_iconst (n := 0) rfl (by unfold iR; omega) ?_
            -- at 80
            exact i_zreturn rfl rfl (by first | omega | assumption)
        · rw [bz_f (fun q => c5 q.2.2.1)]
          refine i_aload_n rfl rfl ?_
          refine i_iload_n rfl rfl ?_
          refine i_iconst (n := 0) rfl (by unfold iR; omega) ?_
          -- at 3
          refine i_call (T := (55, zp_55)) rfl rfl (w0) rfl rfl rfl rfl rfl rfl rfl ?_
          try dsimp only
          show irun none zp_67 6 _ (iI (M (36 + 1) (7 * k)) :: _) _ _ 0 0 _
          refine i_bipush (n := 8) rfl (by unfold iR; omega) (by decide) ?_
          refine i_icmp_ge_f rfl (by first | omega | assumption) ?_
          refine i_aload_n rfl rfl ?_
          refine i_iload_n rfl rfl ?_
          refine i_iconst (n := 1) rfl (by unfold iR; omega) ?_
          -- at 14
          refine i_call (T := (55, zp_55)) rfl rfl (w1) rfl rfl rfl rfl rfl rfl rfl ?_
          try dsimp only
          show irun none zp_67 17 _ (iI (M (36 + 1) (7 * k + 1)) :: _) _ _ 0 0 _
          refine i_if_le_f rfl (by first | omega | assumption) ?_
          refine i_aload_n rfl rfl ?_
          refine i_iload_n rfl rfl ?_
          refine i_iconst (n := 5) rfl (by unfold iR; omega) ?_
          -- at 23
          refine i_call (T := (55, zp_55)) rfl rfl (w5) rfl rfl rfl rfl rfl rfl rfl ?_
          try dsimp only
          show irun none zp_67 26 _ (iI (M (36 + 1) (7 * k + 5)) :: _) _ _ 0 0 _
          refine i_bipush (n := 24) rfl (by unfold iR; omega) (by decide) ?_
          refine i_icmp_gt_t rfl (by first | omega | assumption) ?_
          refine i_iconst (n := 0) rfl (by unfold iR; omega) ?_
          -- at 80
          exact i_zreturn rfl rfl (by first | omega | assumption)
      · rw [bz_f (fun q => c1 q.2.1)]
        refine i_aload_n rfl rfl ?_
        refine i_iload_n rfl rfl ?_
        refine i_iconst (n := 0) rfl (by unfold iR; omega) ?_
        -- at 3
        refine i_call (T := (55, zp_55)) rfl rfl (w0) rfl rfl rfl rfl rfl rfl rfl ?_
        try dsimp only
        show irun none zp_67 6 _ (iI (M (36 + 1) (7 * k)) :: _) _ _ 0 0 _
        refine i_bipush (n := 8) rfl (by unfold iR; omega) (by decide) ?_
        refine i_icmp_ge_f rfl (by first | omega | assumption) ?_
        refine i_aload_n rfl rfl ?_
        refine i_iload_n rfl rfl ?_
        refine i_iconst (n := 1) rfl (by unfold iR; omega) ?_
        -- at 14
        refine i_call (T := (55, zp_55)) rfl rfl (w1) rfl rfl rfl rfl rfl rfl rfl ?_
        try dsimp only
        show irun none zp_67 17 _ (iI (M (36 + 1) (7 * k + 1)) :: _) _ _ 0 0 _
        refine i_if_le_t rfl (by first | omega | assumption) ?_
        refine i_iconst (n := 0) rfl (by unfold iR; omega) ?_
        -- at 80
        exact i_zreturn rfl rfl (by first | omega | assumption)
    · rw [bz_f (fun q => c0 q.1)]
      refine i_aload_n rfl rfl ?_
      refine i_iload_n rfl rfl ?_
      refine i_iconst (n := 0) rfl (by unfold iR; omega) ?_
      -- at 3
      refine i_call (T := (55, zp_55)) rfl rfl (w0) rfl rfl rfl rfl rfl rfl rfl ?_
      try dsimp only
      show irun none zp_67 6 _ (iI (M (36 + 1) (7 * k)) :: _) _ _ 0 0 _
      refine i_bipush (n := 8) rfl (by unfold iR; omega) (by decide) ?_
      refine i_icmp_ge_t rfl (by first | omega | assumption) ?_
      refine i_iconst (n := 0) rfl (by unfold iR; omega) ?_
      -- at 80
      exact i_zreturn rfl rfl (by first | omega | assumption)
  · have w0 := c_word (b := b) (M := M) (p := 38) (k := k) (u := 0) (by decide) hk (by decide)
    have w1 := c_word (b := b) (M := M) (p := 38) (k := k) (u := 1) (by decide) hk (by decide)
    have w2 := c_word (b := b) (M := M) (p := 38) (k := k) (u := 2) (by decide) hk (by decide)
    have w3 := c_word (b := b) (M := M) (p := 38) (k := k) (u := 3) (by decide) hk (by decide)
    have w5 := c_word (b := b) (M := M) (p := 38) (k := k) (u := 5) (by decide) hk (by decide)
    have fr := c_areFree (sh := SH b) (M := M) (hb 2 (by decide)) (hb 3 (by decide))
    by_cases c0 : M (38 + 1) (7 * k) < 8
    · by_cases c1 : 0 < M (38 + 1) (7 * k + 1)
      · by_cases c5 : M (38 + 1) (7 * k + 5) ≤ 24
        · by_cases c2 : (2 ≤ M (38 + 1) (7 * k + 2) ∧ 1 ≤ M (38 + 1) (7 * k + 3) ∧ M (38 + 1) (7 * k + 2) + M (38 + 1) (7 * k + 3) ≤ 48)
          · by_cases c4 : k = 0
            · rw [bz_t (show en _ _ from ⟨c0, c1, c5, c2, Or.inl c4⟩)]
              refine i_aload_n rfl rfl ?_
              refine i_iload_n rfl rfl ?_
              refine i_iconst (n := 0) rfl (by unfold iR; omega) ?_
              -- at 3
              refine i_call (T := (55, zp_55)) rfl rfl (w0) rfl rfl rfl rfl rfl rfl rfl ?_
              try dsimp only
              show irun none zp_67 6 _ (iI (M (38 + 1) (7 * k)) :: _) _ _ 0 0 _
              refine i_bipush (n := 8) rfl (by unfold iR; omega) (by decide) ?_
              refine i_icmp_ge_f rfl (by first | omega | assumption) ?_
              refine i_aload_n rfl rfl ?_
              refine i_iload_n rfl rfl ?_
              refine i_iconst (n := 1) rfl (by unfold iR; omega) ?_
              -- at 14
              refine i_call (T := (55, zp_55)) rfl rfl (w1) rfl rfl rfl rfl rfl rfl rfl ?_
              try dsimp only
              show irun none zp_67 17 _ (iI (M (38 + 1) (7 * k + 1)) :: _) _ _ 0 0 _
              refine i_if_le_f rfl (by first | omega | assumption) ?_
              refine i_aload_n rfl rfl ?_
              refine i_iload_n rfl rfl ?_
              refine i_iconst (n := 5) rfl (by unfold iR; omega) ?_
              -- at 23
              refine i_call (T := (55, zp_55)) rfl rfl (w5) rfl rfl rfl rfl rfl rfl rfl ?_
              try dsimp only
              show irun none zp_67 26 _ (iI (M (38 + 1) (7 * k + 5)) :: _) _ _ 0 0 _
              refine i_bipush (n := 24) rfl (by unfold iR; omega) (by decide) ?_
              refine i_icmp_gt_f rfl (by first | omega | assumption) ?_
              refine i_aload_n rfl rfl ?_
              refine i_iload_n rfl rfl ?_
              refine i_iconst (n := 2) rfl (by unfold iR; omega) ?_
              -- at 34
              refine i_call (T := (55, zp_55)) rfl rfl (w2) rfl rfl rfl rfl rfl rfl rfl ?_
              try dsimp only
              show irun none zp_67 37 _ (iI (M (38 + 1) (7 * k + 2)) :: _) _ _ 0 0 _
              refine i_aload_n rfl rfl ?_
              refine i_iload_n rfl rfl ?_
              refine i_iconst (n := 3) rfl (by unfold iR; omega) ?_
              -- at 40
              refine i_call (T := (55, zp_55)) rfl rfl (w3) rfl rfl rfl rfl rfl rfl rfl ?_
              try dsimp only
              show irun none zp_67 43 _ (iI (M (38 + 1) (7 * k + 3)) :: _) _ _ 0 0 _
              refine i_call (T := (31, zp_31)) rfl rfl (fr) rfl rfl rfl rfl rfl rfl rfl ?_
              try dsimp only
              show irun none zp_67 46 _ (iI (bz _) :: _) _ _ 0 0 _
              rw [bz_t c2]
              refine i_if_eq_f rfl (by first | omega | assumption) ?_
              refine i_iload_n rfl rfl ?_
              refine i_if_eq_t rfl (by first | omega | assumption) ?_
              refine i_iconst (n := 1) rfl (by unfold iR; omega) ?_
              refine i_goto rfl ?_
              -- at 80
              exact i_zreturn rfl rfl (by first | omega | assumption)
            · have ri := c_rises (b := b) (M := M) (p := 38) (k := k - 1) (a := M (38 + 1) (7 * k)) (v := M (38 + 1) (7 * k + 1)) (by decide) (by omega)
              rw [show ((k - 1 : Nat) : Int) = (k : Int) - 1 by omega] at ri
              by_cases c6 : ls (M (38 + 1)) (k - 1) (M (38 + 1) (7 * k)) (M (38 + 1) (7 * k + 1))
              · rw [bz_t (show en _ _ from ⟨c0, c1, c5, c2, Or.inr c6⟩)]
                refine i_aload_n rfl rfl ?_
                refine i_iload_n rfl rfl ?_
                refine i_iconst (n := 0) rfl (by unfold iR; omega) ?_
                -- at 3
                refine i_call (T := (55, zp_55)) rfl rfl (w0) rfl rfl rfl rfl rfl rfl rfl ?_
                try dsimp only
                show irun none zp_67 6 _ (iI (M (38 + 1) (7 * k)) :: _) _ _ 0 0 _
                refine i_bipush (n := 8) rfl (by unfold iR; omega) (by decide) ?_
                refine i_icmp_ge_f rfl (by first | omega | assumption) ?_
                refine i_aload_n rfl rfl ?_
                refine i_iload_n rfl rfl ?_
                refine i_iconst (n := 1) rfl (by unfold iR; omega) ?_
                -- at 14
                refine i_call (T := (55, zp_55)) rfl rfl (w1) rfl rfl rfl rfl rfl rfl rfl ?_
                try dsimp only
                show irun none zp_67 17 _ (iI (M (38 + 1) (7 * k + 1)) :: _) _ _ 0 0 _
                refine i_if_le_f rfl (by first | omega | assumption) ?_
                refine i_aload_n rfl rfl ?_
                refine i_iload_n rfl rfl ?_
                refine i_iconst (n := 5) rfl (by unfold iR; omega) ?_
                -- at 23
                refine i_call (T := (55, zp_55)) rfl rfl (w5) rfl rfl rfl rfl rfl rfl rfl ?_
                try dsimp only
                show irun none zp_67 26 _ (iI (M (38 + 1) (7 * k + 5)) :: _) _ _ 0 0 _
                refine i_bipush (n := 24) rfl (by unfold iR; omega) (by decide) ?_
                refine i_icmp_gt_f rfl (by first | omega | assumption) ?_
                refine i_aload_n rfl rfl ?_
                refine i_iload_n rfl rfl ?_
                refine i_iconst (n := 2) rfl (by unfold iR; omega) ?_
                -- at 34
                refine i_call (T := (55, zp_55)) rfl rfl (w2) rfl rfl rfl rfl rfl rfl rfl ?_
                try dsimp only
                show irun none zp_67 37 _ (iI (M (38 + 1) (7 * k + 2)) :: _) _ _ 0 0 _
                refine i_aload_n rfl rfl ?_
                refine i_iload_n rfl rfl ?_
                refine i_iconst (n := 3) rfl (by unfold iR; omega) ?_
                -- at 40
                refine i_call (T := (55, zp_55)) rfl rfl (w3) rfl rfl rfl rfl rfl rfl rfl ?_
                try dsimp only
                show irun none zp_67 43 _ (iI (M (38 + 1) (7 * k + 3)) :: _) _ _ 0 0 _
                refine i_call (T := (31, zp_31)) rfl rfl (fr) rfl rfl rfl rfl rfl rfl rfl ?_
                try dsimp only
                show irun none zp_67 46 _ (iI (bz _) :: _) _ _ 0 0 _
                rw [bz_t c2]
                refine i_if_eq_f rfl (by first | omega | assumption) ?_
                refine i_iload_n rfl rfl ?_
                refine i_if_eq_f rfl (by first | omega | assumption) ?_
                refine i_aload_n rfl rfl ?_
                refine i_iload_n rfl rfl ?_
                refine i_iconst (n := 1) rfl (by unfold iR; omega) ?_
                refine i_isub rfl (by unfold iR; omega) ?_
                refine i_aload_n rfl rfl ?_
                refine i_iload_n rfl rfl ?_
                refine i_iconst (n := 0) rfl (by unfold iR; omega) ?_
                -- at 60
                refine i_call (T := (55, zp_55)) rfl rfl (w0) rfl rfl rfl rfl rfl rfl rfl ?_
                try dsimp only
                show irun none zp_67 63 _ (iI (M (38 + 1) (7 * k)) :: _) _ _ 0 0 _
                refine i_aload_n rfl rfl ?_
                refine i_iload_n rfl rfl ?_
                refine i_iconst (n := 1) rfl (by unfold iR; omega) ?_
                -- at 66
                refine i_call (T := (55, zp_55)) rfl rfl (w1) rfl rfl rfl rfl rfl rfl rfl ?_
                try dsimp only
                show irun none zp_67 69 _ (iI (M (38 + 1) (7 * k + 1)) :: _) _ _ 0 0 _
                refine i_call (T := (62, zp_62)) rfl rfl (ri) rfl rfl rfl rfl rfl rfl rfl ?_
                try dsimp only
                show irun none zp_67 72 _ (iI (bz _) :: _) _ _ 0 0 _
                rw [bz_t c6]
                refine i_if_eq_f rfl (by first | omega | assumption) ?_
                refine i_iconst (n := 1) rfl (by unfold iR; omega) ?_
                refine i_goto rfl ?_
                -- at 80
                exact i_zreturn rfl rfl (by first | omega | assumption)
              · rw [bz_f (fun q => q.2.2.2.2.elim c4 c6)]
                refine i_aload_n rfl rfl ?_
                refine i_iload_n rfl rfl ?_
                refine i_iconst (n := 0) rfl (by unfold iR; omega) ?_
                -- at 3
                refine i_call (T := (55, zp_55)) rfl rfl (w0) rfl rfl rfl rfl rfl rfl rfl ?_
                try dsimp only
                show irun none zp_67 6 _ (iI (M (38 + 1) (7 * k)) :: _) _ _ 0 0 _
                refine i_bipush (n := 8) rfl (by unfold iR; omega) (by decide) ?_
                refine i_icmp_ge_f rfl (by first | omega | assumption) ?_
                refine i_aload_n rfl rfl ?_
                refine i_iload_n rfl rfl ?_
                refine i_iconst (n := 1) rfl (by unfold iR; omega) ?_
                -- at 14
                refine i_call (T := (55, zp_55)) rfl rfl (w1) rfl rfl rfl rfl rfl rfl rfl ?_
                try dsimp only
                show irun none zp_67 17 _ (iI (M (38 + 1) (7 * k + 1)) :: _) _ _ 0 0 _
                refine i_if_le_f rfl (by first | omega | assumption) ?_
                refine i_aload_n rfl rfl ?_
                refine i_iload_n rfl rfl ?_
                refine i_iconst (n := 5) rfl (by unfold iR; omega) ?_
                -- at 23
                refine i_call (T := (55, zp_55)) rfl rfl (w5) rfl rfl rfl rfl rfl rfl rfl ?_
                try dsimp only
                show irun none zp_67 26 _ (iI (M (38 + 1) (7 * k + 5)) :: _) _ _ 0 0 _
                refine i_bipush (n := 24) rfl (by unfold iR; omega) (by decide) ?_
                refine i_icmp_gt_f rfl (by first | omega | assumption) ?_
                refine i_aload_n rfl rfl ?_
                refine i_iload_n rfl rfl ?_
                refine i_iconst (n := 2) rfl (by unfold iR; omega) ?_
                -- at 34
                refine i_call (T := (55, zp_55)) rfl rfl (w2) rfl rfl rfl rfl rfl rfl rfl ?_
                try dsimp only
                show irun none zp_67 37 _ (iI (M (38 + 1) (7 * k + 2)) :: _) _ _ 0 0 _
                refine i_aload_n rfl rfl ?_
                refine i_iload_n rfl rfl ?_
                refine i_iconst (n := 3) rfl (by unfold iR; omega) ?_
                -- at 40
                refine i_call (T := (55, zp_55)) rfl rfl (w3) rfl rfl rfl rfl rfl rfl rfl ?_
                try dsimp only
                show irun none zp_67 43 _ (iI (M (38 + 1) (7 * k + 3)) :: _) _ _ 0 0 _
                refine i_call (T := (31, zp_31)) rfl rfl (fr) rfl rfl rfl rfl rfl rfl rfl ?_
                try dsimp only
                show irun none zp_67 46 _ (iI (bz _) :: _) _ _ 0 0 _
                rw [bz_t c2]
                refine i_if_eq_f rfl (by first | omega | assumption) ?_
                refine i_iload_n rfl rfl ?_
                refine i_if_eq_f rfl (by first | omega | assumption) ?_
                refine i_aload_n rfl rfl ?_
                refine i_iload_n rfl rfl ?_
                refine i_iconst (n := 1) rfl (by unfold iR; omega) ?_
                refine i_isub rfl (by unfold iR; omega) ?_
                refine i_aload_n rfl rfl ?_
                refine i_iload_n rfl rfl ?_
                refine i_iconst (n := 0) rfl (by unfold iR; omega) ?_
                -- at 60
                refine i_call (T := (55, zp_55)) rfl rfl (w0) rfl rfl rfl rfl rfl rfl rfl ?_
                try dsimp only
                show irun none zp_67 63 _ (iI (M (38 + 1) (7 * k)) :: _) _ _ 0 0 _
                refine i_aload_n rfl rfl ?_
                refine i_iload_n rfl rfl ?_
                refine i_iconst (n := 1) rfl (by unfold iR; omega) ?_
                -- at 66
                refine i_call (T := (55, zp_55)) rfl rfl (w1) rfl rfl rfl rfl rfl rfl rfl ?_
                try dsimp only
                show irun none zp_67 69 _ (iI (M (38 + 1) (7 * k + 1)) :: _) _ _ 0 0 _
                refine i_call (T := (62, zp_62)) rfl rfl (ri) rfl rfl rfl rfl rfl rfl rfl ?_
                try dsimp only
                show irun none zp_67 72 _ (iI (bz _) :: _) _ _ 0 0 _
                rw [bz_f c6]
                refine i_if_eq_t rfl (by first | omega | assumption) ?_
                refine i_iconst (n := 0) rfl (by unfold iR; omega) ?_
                -- at 80
                exact i_zreturn rfl rfl (by first | omega | assumption)
          · rw [bz_f (fun q => c2 q.2.2.2.1)]
            refine i_aload_n rfl rfl ?_
            refine i_iload_n rfl rfl ?_
            refine i_iconst (n := 0) rfl (by unfold iR; omega) ?_
            -- at 3
            refine i_call (T := (55, zp_55)) rfl rfl (w0) rfl rfl rfl rfl rfl rfl rfl ?_
            try dsimp only
            show irun none zp_67 6 _ (iI (M (38 + 1) (7 * k)) :: _) _ _ 0 0 _
            refine i_bipush (n := 8) rfl (by unfold iR; omega) (by decide) ?_
            refine i_icmp_ge_f rfl (by first | omega | assumption) ?_
            refine i_aload_n rfl rfl ?_
            refine i_iload_n rfl rfl ?_
            refine i_iconst (n := 1) rfl (by unfold iR; omega) ?_
            -- at 14
            refine i_call (T := (55, zp_55)) rfl rfl (w1) rfl rfl rfl rfl rfl rfl rfl ?_
            try dsimp only
            show irun none zp_67 17 _ (iI (M (38 + 1) (7 * k + 1)) :: _) _ _ 0 0 _
            refine i_if_le_f rfl (by first | omega | assumption) ?_
            refine i_aload_n rfl rfl ?_
            refine i_iload_n rfl rfl ?_
            refine i_iconst (n := 5) rfl (by unfold iR; omega) ?_
            -- at 23
            refine i_call (T := (55, zp_55)) rfl rfl (w5) rfl rfl rfl rfl rfl rfl rfl ?_
            try dsimp only
            show irun none zp_67 26 _ (iI (M (38 + 1) (7 * k + 5)) :: _) _ _ 0 0 _
            refine i_bipush (n := 24) rfl (by unfold iR; omega) (by decide) ?_
            refine i_icmp_gt_f rfl (by first | omega | assumption) ?_
            refine i_aload_n rfl rfl ?_
            refine i_iload_n rfl rfl ?_
            refine i_iconst (n := 2) rfl (by unfold iR; omega) ?_
            -- at 34
            refine i_call (T := (55, zp_55)) rfl rfl (w2) rfl rfl rfl rfl rfl rfl rfl ?_
            try dsimp only
            show irun none zp_67 37 _ (iI (M (38 + 1) (7 * k + 2)) :: _) _ _ 0 0 _
            refine i_aload_n rfl rfl ?_
            refine i_iload_n rfl rfl ?_
            refine i_iconst (n := 3) rfl (by unfold iR; omega) ?_
            -- at 40
            refine i_call (T := (55, zp_55)) rfl rfl (w3) rfl rfl rfl rfl rfl rfl rfl ?_
            try dsimp only
            show irun none zp_67 43 _ (iI (M (38 + 1) (7 * k + 3)) :: _) _ _ 0 0 _
            refine i_call (T := (31, zp_31)) rfl rfl (fr) rfl rfl rfl rfl rfl rfl rfl ?_
            try dsimp only
            show irun none zp_67 46 _ (iI (bz _) :: _) _ _ 0 0 _
            rw [bz_f c2]
            refine i_if_eq_t rfl (by first | omega | assumption) ?_
            refine i_iconst (n := 0) rfl (by unfold iR; omega) ?_
            -- at 80
            exact i_zreturn rfl rfl (by first | omega | assumption)
        · rw [bz_f (fun q => c5 q.2.2.1)]
          refine i_aload_n rfl rfl ?_
          refine i_iload_n rfl rfl ?_
          refine i_iconst (n := 0) rfl (by unfold iR; omega) ?_
          -- at 3
          refine i_call (T := (55, zp_55)) rfl rfl (w0) rfl rfl rfl rfl rfl rfl rfl ?_
          try dsimp only
          show irun none zp_67 6 _ (iI (M (38 + 1) (7 * k)) :: _) _ _ 0 0 _
          refine i_bipush (n := 8) rfl (by unfold iR; omega) (by decide) ?_
          refine i_icmp_ge_f rfl (by first | omega | assumption) ?_
          refine i_aload_n rfl rfl ?_
          refine i_iload_n rfl rfl ?_
          refine i_iconst (n := 1) rfl (by unfold iR; omega) ?_
          -- at 14
          refine i_call (T := (55, zp_55)) rfl rfl (w1) rfl rfl rfl rfl rfl rfl rfl ?_
          try dsimp only
          show irun none zp_67 17 _ (iI (M (38 + 1) (7 * k + 1)) :: _) _ _ 0 0 _
          refine i_if_le_f rfl (by first | omega | assumption) ?_
          refine i_aload_n rfl rfl ?_
          refine i_iload_n rfl rfl ?_
          refine i_iconst (n := 5) rfl (by unfold iR; omega) ?_
          -- at 23
          refine i_call (T := (55, zp_55)) rfl rfl (w5) rfl rfl rfl rfl rfl rfl rfl ?_
          try dsimp only
          show irun none zp_67 26 _ (iI (M (38 + 1) (7 * k + 5)) :: _) _ _ 0 0 _
          refine i_bipush (n := 24) rfl (by unfold iR; omega) (by decide) ?_
          refine i_icmp_gt_t rfl (by first | omega | assumption) ?_
          refine i_iconst (n := 0) rfl (by unfold iR; omega) ?_
          -- at 80
          exact i_zreturn rfl rfl (by first | omega | assumption)
      · rw [bz_f (fun q => c1 q.2.1)]
        refine i_aload_n rfl rfl ?_
        refine i_iload_n rfl rfl ?_
        refine i_iconst (n := 0) rfl (by unfold iR; omega) ?_
        -- at 3
        refine i_call (T := (55, zp_55)) rfl rfl (w0) rfl rfl rfl rfl rfl rfl rfl ?_
        try dsimp only
        show irun none zp_67 6 _ (iI (M (38 + 1) (7 * k)) :: _) _ _ 0 0 _
        refine i_bipush (n := 8) rfl (by unfold iR; omega) (by decide) ?_
        refine i_icmp_ge_f rfl (by first | omega | assumption) ?_
        refine i_aload_n rfl rfl ?_
        refine i_iload_n rfl rfl ?_
        refine i_iconst (n := 1) rfl (by unfold iR; omega) ?_
        -- at 14
        refine i_call (T := (55, zp_55)) rfl rfl (w1) rfl rfl rfl rfl rfl rfl rfl ?_
        try dsimp only
        show irun none zp_67 17 _ (iI (M (38 + 1) (7 * k + 1)) :: _) _ _ 0 0 _
        refine i_if_le_t rfl (by first | omega | assumption) ?_
        refine i_iconst (n := 0) rfl (by unfold iR; omega) ?_
        -- at 80
        exact i_zreturn rfl rfl (by first | omega | assumption)
    · rw [bz_f (fun q => c0 q.1)]
      refine i_aload_n rfl rfl ?_
      refine i_iload_n rfl rfl ?_
      refine i_iconst (n := 0) rfl (by unfold iR; omega) ?_
      -- at 3
      refine i_call (T := (55, zp_55)) rfl rfl (w0) rfl rfl rfl rfl rfl rfl rfl ?_
      try dsimp only
      show irun none zp_67 6 _ (iI (M (38 + 1) (7 * k)) :: _) _ _ 0 0 _
      refine i_bipush (n := 8) rfl (by unfold iR; omega) (by decide) ?_
      refine i_icmp_ge_t rfl (by first | omega | assumption) ?_
      refine i_iconst (n := 0) rfl (by unfold iR; omega) ?_
      -- at 80
      exact i_zreturn rfl rfl (by first | omega | assumption)
set_option maxRecDepth 100000 in
theorem c_entries {b : Bool} {M : iM} {p : Nat} {room : Int} (hp : p = 36 ∨ p = 38) (hr : 0 < room ∧ room ≤ 528) (hb : ∀ j : Nat, (j : Int) < room → 0 ≤ M 34 j ∧ M 34 j < 256) :
    ∃ M', irun none zp_66 0 (i_ent [iP p, iP 34, iI room] 4) [] (SH b) M 0 0 (some (bz (es (M 34) room)), SH b, M') ∧ Fr [p, p + 1] M M' ∧ (es (M 34) room → M' p 1 = M 34 0 ∧ M' p 2 = M p 2 ∧ M' p 3 = M p 3 ∧ M' p 4 = M p 4 ∧ ∀ j : Nat, (j : Int) < 7 * M 34 0 → M' (p + 1) j = M 34 (1 + j)) := by
  have hc := hb 0 (by omega)
  by_cases c0 : 1 ≤ M 34 0 ∧ M 34 0 ≤ 10 ∧ 1 + 7 * M 34 0 ≤ room
  · obtain ⟨c1, c2, c3⟩ := c0
    obtain ⟨n, hn⟩ := Int.eq_ofNat_of_zero_le (show 0 ≤ M 34 0 by omega)
    have key : ∀ M' : iM, M' p 1 = M 34 0 → (∀ j : Nat, (j : Int) < 7 * M 34 0 → M' (p + 1) j = M 34 (1 + j)) → irun none zp_66 55 [some (iP p), some (iP 34), some (iI room), some (iI 0)] [] (SH b) M' 0 0 (some (bz (es (M 34) room)), SH b, M') := by
      intro M' e1 e2
      have loop : ∀ (c k : Nat), k + c = n → (∀ i, i < k → en (fun j => M 34 (1 + j)) i) → irun none zp_66 55 [some (iP p), some (iP 34), some (iI room), some (iI (k : Int))] [] (SH b) M' 0 0 (some (bz (es (M 34) room)), SH b, M') := by
        intro c
        induction c with
        | zero =>
          intro k hk hall
          obtain rfl : k = n := by omega
          rw [bz_t (show es _ _ from ⟨c1, c2, c3, fun i hi => hall i (by omega)⟩)]
          rcases hp with rfl | rfl
          · refine i_iload_n rfl rfl ?_
            refine i_aload_n rfl rfl ?_
            refine i_getf rfl rfl rfl rfl (by decide) ?_
            refine i_icmp_ge_t rfl (by first | omega | assumption) ?_
            refine i_iconst (n := 1) rfl (by unfold iR; omega) ?_
            -- at 80
            exact i_zreturn rfl rfl (by first | omega | assumption)
          · refine i_iload_n rfl rfl ?_
            refine i_aload_n rfl rfl ?_
            refine i_getf rfl rfl rfl rfl (by decide) ?_
            refine i_icmp_ge_t rfl (by first | omega | assumption) ?_
            refine i_iconst (n := 1) rfl (by unfold iR; omega) ?_
            -- at 80
            exact i_zreturn rfl rfl (by first | omega | assumption)
        | succ c ih =>
          intro k hk hall
          have hs := c_sound (b := b) (M := M') (p := p) (k := k) hp (by omega) (fun u hu => by
            rw [e2 (7 * k + u) (by omega)]
            exact hb _ (by omega))
          have he : en (M' (p + 1)) k ↔ en (fun j => M 34 (1 + j)) k := en_c (fun j hj => e2 j (by omega))
          by_cases c4 : en (fun j => M 34 (1 + j)) k
          · have hnx := ih (k + 1) (by omega) (fun i hi => by
              by_cases e : i = k
              · rw [e]; exact c4
              · exact hall i (by omega))
            rw [bz_t (he.mpr c4)] at hs
            rcases hp with rfl | rfl
            · refine i_iload_n rfl rfl ?_
              refine i_aload_n rfl rfl ?_
              refine i_getf rfl rfl rfl rfl (by decide) ?_
              refine i_icmp_ge_f rfl (by first | omega | assumption) ?_
              refine i_aload_n rfl rfl ?_
              refine i_iload_n rfl rfl ?_
              -- at 65
              refine i_call (T := (67, zp_67)) rfl rfl (hs) rfl rfl rfl rfl rfl rfl rfl ?_
              try dsimp only
              show irun none zp_66 68 _ (iI (1) :: _) _ _ 0 0 _
              refine i_if_ne_t rfl (by first | omega | assumption) ?_
              refine i_iinc rfl rfl (by unfold iR; omega) (Nat.le_of_ble_eq_true rfl) rfl ?_
              refine i_goto rfl ?_
              -- at 55
              exact hnx
            · refine i_iload_n rfl rfl ?_
              refine i_aload_n rfl rfl ?_
              refine i_getf rfl rfl rfl rfl (by decide) ?_
              refine i_icmp_ge_f rfl (by first | omega | assumption) ?_
              refine i_aload_n rfl rfl ?_
              refine i_iload_n rfl rfl ?_
              -- at 65
              refine i_call (T := (67, zp_67)) rfl rfl (hs) rfl rfl rfl rfl rfl rfl rfl ?_
              try dsimp only
              show irun none zp_66 68 _ (iI (1) :: _) _ _ 0 0 _
              refine i_if_ne_t rfl (by first | omega | assumption) ?_
              refine i_iinc rfl rfl (by unfold iR; omega) (Nat.le_of_ble_eq_true rfl) rfl ?_
              refine i_goto rfl ?_
              -- at 55
              exact hnx
          · rw [bz_f (fun q => c4 (he.mp q))] at hs
            rw [bz_f (fun q => c4 (q.2.2.2 k (by omega)))]
            rcases hp with rfl | rfl
            · refine i_iload_n rfl rfl ?_
              refine i_aload_n rfl rfl ?_
              refine i_getf rfl rfl rfl rfl (by decide) ?_
              refine i_icmp_ge_f rfl (by first | omega | assumption) ?_
              refine i_aload_n rfl rfl ?_
              refine i_iload_n rfl rfl ?_
              -- at 65
              refine i_call (T := (67, zp_67)) rfl rfl (hs) rfl rfl rfl rfl rfl rfl rfl ?_
              try dsimp only
              show irun none zp_66 68 _ (iI (0) :: _) _ _ 0 0 _
              refine i_if_ne_f rfl (by first | omega | assumption) ?_
              refine i_iconst (n := 0) rfl (by unfold iR; omega) ?_
              -- at 72
              exact i_zreturn rfl rfl (by first | omega | assumption)
            · refine i_iload_n rfl rfl ?_
              refine i_aload_n rfl rfl ?_
              refine i_getf rfl rfl rfl rfl (by decide) ?_
              refine i_icmp_ge_f rfl (by first | omega | assumption) ?_
              refine i_aload_n rfl rfl ?_
              refine i_iload_n rfl rfl ?_
              -- at 65
              refine i_call (T := (67, zp_67)) rfl rfl (hs) rfl rfl rfl rfl rfl rfl rfl ?_
              try dsimp only
              show irun none zp_66 68 _ (iI (0) :: _) _ _ 0 0 _
              refine i_if_ne_f rfl (by first | omega | assumption) ?_
              refine i_iconst (n := 0) rfl (by unfold iR; omega) ?_
              -- at 72
              exact i_zreturn rfl rfl (by first | omega | assumption)
      exact loop n 0 (by omega) (fun i hi => by omega)
    refine ⟨i_cp (i_st M p 1 (M 34 0)) 34 1 (p + 1) 0 (7 * n), ?_, Fr_cp (Fr_st (Fr_r _ _) (by simp)) (by simp), fun _ => ⟨?_, ?_, ?_, ?_, ?_⟩⟩
    · have hk := key (i_cp (i_st M p 1 (M 34 0)) 34 1 (p + 1) 0 (7 * n)) ?_ ?_
      · rcases hp with rfl | rfl
        · refine i_aload_n rfl rfl ?_
          refine i_iconst (n := 0) rfl (by unfold iR; omega) ?_
          refine i_iald rfl rfl (by first | omega | assumption) (by first | omega | assumption) (by decide) ?_
          -- at 3
          show irun none zp_66 3 _ (iI (M 34 0) :: _) _ _ 0 0 _
          refine i_iconst (n := 1) rfl (by unfold iR; omega) ?_
          refine i_icmp_lt_f rfl (by first | omega | assumption) ?_
          refine i_aload_n rfl rfl ?_
          refine i_iconst (n := 0) rfl (by unfold iR; omega) ?_
          refine i_iald rfl rfl (by first | omega | assumption) (by first | omega | assumption) (by decide) ?_
          -- at 10
          show irun none zp_66 10 _ (iI (M 34 0) :: _) _ _ 0 0 _
          refine i_bipush (n := 10) rfl (by unfold iR; omega) (by decide) ?_
          refine i_icmp_gt_f rfl (by first | omega | assumption) ?_
          refine i_iconst (n := 1) rfl (by unfold iR; omega) ?_
          refine i_aload_n rfl rfl ?_
          refine i_iconst (n := 0) rfl (by unfold iR; omega) ?_
          refine i_iald rfl rfl (by first | omega | assumption) (by first | omega | assumption) (by decide) ?_
          -- at 19
          show irun none zp_66 19 _ (iI (M 34 0) :: _) _ _ 0 0 _
          refine i_bipush (n := 7) rfl (by unfold iR; omega) (by decide) ?_
          refine i_imul rfl (by unfold iR; omega) ?_
          refine i_iadd rfl (by unfold iR; omega) ?_
          refine i_iload_n rfl rfl ?_
          refine i_icmp_le_t rfl (by first | omega | assumption) ?_
          refine i_aload_n rfl rfl ?_
          refine i_aload_n rfl rfl ?_
          refine i_iconst (n := 0) rfl (by unfold iR; omega) ?_
          refine i_iald rfl rfl (by first | omega | assumption) (by first | omega | assumption) (by decide) ?_
          -- at 33
          show irun none zp_66 33 _ (iI (M 34 0) :: _) _ _ 0 0 _
          refine i_puti rfl rfl rfl rfl ?_
          refine i_aload_n rfl rfl ?_
          refine i_iconst (n := 1) rfl (by unfold iR; omega) ?_
          refine i_aload_n rfl rfl ?_
          refine i_getr rfl rfl rfl rfl (by decide) rfl ?_
          refine i_iconst (n := 0) rfl (by unfold iR; omega) ?_
          refine i_aload_n rfl rfl ?_
          refine i_getf rfl rfl rfl rfl (by decide) ?_
          -- at 47
          show irun none zp_66 47 _ (iI (M 34 0) :: _) _ _ 0 0 _
          refine i_bipush (n := 7) rfl (by unfold iR; omega) (by decide) ?_
          refine i_imul rfl (by unfold iR; omega) ?_
          -- at 50
          refine i_copy (n0 := 528) (n1 := 70) rfl rfl rfl rfl (by omega) (by omega) (by omega) (by omega) (by omega) (Nat.le_of_ble_eq_true rfl) ?_
          rw [show (M 34 0 * 7).toNat = 7 * n by omega]
          refine i_iconst (n := 0) rfl (by unfold iR; omega) ?_
          refine i_istore_n rfl (Nat.le_of_ble_eq_true rfl) rfl ?_
          -- at 55
          exact hk
        · refine i_aload_n rfl rfl ?_
          refine i_iconst (n := 0) rfl (by unfold iR; omega) ?_
          refine i_iald rfl rfl (by first | omega | assumption) (by first | omega | assumption) (by decide) ?_
          -- at 3
          show irun none zp_66 3 _ (iI (M 34 0) :: _) _ _ 0 0 _
          refine i_iconst (n := 1) rfl (by unfold iR; omega) ?_
          refine i_icmp_lt_f rfl (by first | omega | assumption) ?_
          refine i_aload_n rfl rfl ?_
          refine i_iconst (n := 0) rfl (by unfold iR; omega) ?_
          refine i_iald rfl rfl (by first | omega | assumption) (by first | omega | assumption) (by decide) ?_
          -- at 10
          show irun none zp_66 10 _ (iI (M 34 0) :: _) _ _ 0 0 _
          refine i_bipush (n := 10) rfl (by unfold iR; omega) (by decide) ?_
          refine i_icmp_gt_f rfl (by first | omega | assumption) ?_
          refine i_iconst (n := 1) rfl (by unfold iR; omega) ?_
          refine i_aload_n rfl rfl ?_
          refine i_iconst (n := 0) rfl (by unfold iR; omega) ?_
          refine i_iald rfl rfl (by first | omega | assumption) (by first | omega | assumption) (by decide) ?_
          -- at 19
          show irun none zp_66 19 _ (iI (M 34 0) :: _) _ _ 0 0 _
          refine i_bipush (n := 7) rfl (by unfold iR; omega) (by decide) ?_
          refine i_imul rfl (by unfold iR; omega) ?_
          refine i_iadd rfl (by unfold iR; omega) ?_
          refine i_iload_n rfl rfl ?_
          refine i_icmp_le_t rfl (by first | omega | assumption) ?_
          refine i_aload_n rfl rfl ?_
          refine i_aload_n rfl rfl ?_
          refine i_iconst (n := 0) rfl (by unfold iR; omega) ?_
          refine i_iald rfl rfl (by first | omega | assumption) (by first | omega | assumption) (by decide) ?_
          -- at 33
          show irun none zp_66 33 _ (iI (M 34 0) :: _) _ _ 0 0 _
          refine i_puti rfl rfl rfl rfl ?_
          refine i_aload_n rfl rfl ?_
          refine i_iconst (n := 1) rfl (by unfold iR; omega) ?_
          refine i_aload_n rfl rfl ?_
          refine i_getr rfl rfl rfl rfl (by decide) rfl ?_
          refine i_iconst (n := 0) rfl (by unfold iR; omega) ?_
          refine i_aload_n rfl rfl ?_
          refine i_getf rfl rfl rfl rfl (by decide) ?_
          -- at 47
          show irun none zp_66 47 _ (iI (M 34 0) :: _) _ _ 0 0 _
          refine i_bipush (n := 7) rfl (by unfold iR; omega) (by decide) ?_
          refine i_imul rfl (by unfold iR; omega) ?_
          -- at 50
          refine i_copy (n0 := 528) (n1 := 70) rfl rfl rfl rfl (by omega) (by omega) (by omega) (by omega) (by omega) (Nat.le_of_ble_eq_true rfl) ?_
          rw [show (M 34 0 * 7).toNat = 7 * n by omega]
          refine i_iconst (n := 0) rfl (by unfold iR; omega) ?_
          refine i_istore_n rfl (Nat.le_of_ble_eq_true rfl) rfl ?_
          -- at 55
          exact hk
      · rcases hp with rfl | rfl
        · rfl
        · rfl
      · intro j hj
        rcases hp with rfl | rfl
        · show (if 0 ≤ j ∧ j < 0 + 7 * n then M 34 (1 + (j - 0)) else _) = _
          rw [if_pos (by omega)]
          rfl
        · show (if 0 ≤ j ∧ j < 0 + 7 * n then M 34 (1 + (j - 0)) else _) = _
          rw [if_pos (by omega)]
          rfl
    · rcases hp with rfl | rfl
      · rfl
      · rfl
    · rcases hp with rfl | rfl
      · rfl
      · rfl
    · rcases hp with rfl | rfl
      · rfl
      · rfl
    · rcases hp with rfl | rfl
      · rfl
      · rfl
    · intro j hj
      rcases hp with rfl | rfl
      · show (if 0 ≤ j ∧ j < 0 + 7 * n then M 34 (1 + (j - 0)) else _) = _
        rw [if_pos (by omega)]
        rfl
      · show (if 0 ≤ j ∧ j < 0 + 7 * n then M 34 (1 + (j - 0)) else _) = _
        rw [if_pos (by omega)]
        rfl
  · refine ⟨M, ?_, Fr_r _ _, fun q => absurd ⟨q.1, q.2.1, q.2.2.1⟩ c0⟩
    rw [bz_f (fun q => c0 ⟨q.1, q.2.1, q.2.2.1⟩)]
    by_cases c1 : M 34 0 < 1
    · refine i_aload_n rfl rfl ?_
      refine i_iconst (n := 0) rfl (by unfold iR; omega) ?_
      refine i_iald rfl rfl (by first | omega | assumption) (by first | omega | assumption) (by decide) ?_
      -- at 3
      show irun none zp_66 3 _ (iI (M 34 0) :: _) _ _ 0 0 _
      refine i_iconst (n := 1) rfl (by unfold iR; omega) ?_
      refine i_icmp_lt_t rfl (by first | omega | assumption) ?_
      refine i_iconst (n := 0) rfl (by unfold iR; omega) ?_
      -- at 28
      exact i_zreturn rfl rfl (by first | omega | assumption)
    · by_cases c2 : 10 < M 34 0
      · refine i_aload_n rfl rfl ?_
        refine i_iconst (n := 0) rfl (by unfold iR; omega) ?_
        refine i_iald rfl rfl (by first | omega | assumption) (by first | omega | assumption) (by decide) ?_
        -- at 3
        show irun none zp_66 3 _ (iI (M 34 0) :: _) _ _ 0 0 _
        refine i_iconst (n := 1) rfl (by unfold iR; omega) ?_
        refine i_icmp_lt_f rfl (by first | omega | assumption) ?_
        refine i_aload_n rfl rfl ?_
        refine i_iconst (n := 0) rfl (by unfold iR; omega) ?_
        refine i_iald rfl rfl (by first | omega | assumption) (by first | omega | assumption) (by decide) ?_
        -- at 10
        show irun none zp_66 10 _ (iI (M 34 0) :: _) _ _ 0 0 _
        refine i_bipush (n := 10) rfl (by unfold iR; omega) (by decide) ?_
        refine i_icmp_gt_t rfl (by first | omega | assumption) ?_
        refine i_iconst (n := 0) rfl (by unfold iR; omega) ?_
        -- at 28
        exact i_zreturn rfl rfl (by first | omega | assumption)
      · refine i_aload_n rfl rfl ?_
        refine i_iconst (n := 0) rfl (by unfold iR; omega) ?_
        refine i_iald rfl rfl (by first | omega | assumption) (by first | omega | assumption) (by decide) ?_
        -- at 3
        show irun none zp_66 3 _ (iI (M 34 0) :: _) _ _ 0 0 _
        refine i_iconst (n := 1) rfl (by unfold iR; omega) ?_
        refine i_icmp_lt_f rfl (by first | omega | assumption) ?_
        refine i_aload_n rfl rfl ?_
        refine i_iconst (n := 0) rfl (by unfold iR; omega) ?_
        refine i_iald rfl rfl (by first | omega | assumption) (by first | omega | assumption) (by decide) ?_
        -- at 10
        show irun none zp_66 10 _ (iI (M 34 0) :: _) _ _ 0 0 _
        refine i_bipush (n := 10) rfl (by unfold iR; omega) (by decide) ?_
        refine i_icmp_gt_f rfl (by first | omega | assumption) ?_
        refine i_iconst (n := 1) rfl (by unfold iR; omega) ?_
        refine i_aload_n rfl rfl ?_
        refine i_iconst (n := 0) rfl (by unfold iR; omega) ?_
        refine i_iald rfl rfl (by first | omega | assumption) (by first | omega | assumption) (by decide) ?_
        -- at 19
        show irun none zp_66 19 _ (iI (M 34 0) :: _) _ _ 0 0 _
        refine i_bipush (n := 7) rfl (by unfold iR; omega) (by decide) ?_
        refine i_imul rfl (by unfold iR; omega) ?_
        refine i_iadd rfl (by unfold iR; omega) ?_
        refine i_iload_n rfl rfl ?_
        refine i_icmp_le_f rfl (by first | omega | assumption) ?_
        refine i_iconst (n := 0) rfl (by unfold iR; omega) ?_
        -- at 28
        exact i_zreturn rfl rfl (by first | omega | assumption)
set_option maxRecDepth 100000 in
theorem c_takeHeader {b : Bool} {M : iM} {p s : Nat} (hp : p = 36 ∨ p = 38) (hs : s < 48) (hf : by8 (M 2) 720) (hm : ∀ x : Nat, x < 256 → M 3 x = hN 8 (x : Int)) :
    ∃ M', irun none zp_18 0 (i_ent [iP 0, iI (s : Int), iP p] 3) [] (SH b) M 0 0 (some (bz (tk (M 2) s)), SH b, M') ∧ Fr [p, p + 1, 4, 34] M M' ∧ (tk (M 2) s → M' p 1 = cn (M 2) s ∧ M' p 2 = rd (M 2) s 2 ∧ M' p 3 = rd (M 2) s 3 ∧ M' p 4 = rd (M 2) s 4 ∧ ∀ j : Nat, (j : Int) < 7 * cn (M 2) s → M' (p + 1) j = tw (M 2) s j) := by
  have b3 := rd_b (s := s) (k := 3) hf hs (by decide)
  have b4 := rd_b (s := s) (k := 4) hf hs (by decide)
  obtain ⟨M1, h1, f1, g11, g12, g13, g14⟩ := c_iclear (b := b) (M := M) hp
  have e2 : M1 2 = M 2 := f1 2 (by rcases hp with rfl | rfl <;> decide)
  have e3 : M1 3 = M 3 := f1 3 (by rcases hp with rfl | rfl <;> decide)
  obtain ⟨M2, h2, f2, g2⟩ := c_fetchF (b := b) (M := M1) (s := s) (t := 34) (n := 528) (fr := 0) (rs := []) rfl (by decide) (by decide) hs (by decide) (by decide) (by rw [e2]; exact hf) (by rw [e3]; exact hm)
  rw [e2] at h2 g2
  have i2 : M2 2 = M 2 := (f2 2 (by decide)).trans e2
  have i3 : M2 3 = M 3 := (f2 3 (by decide)).trans e3
  have fr2 : Fr [p, p + 1, 4, 34] M M2 := Fr_t (fun c hc => f1 c (by simp at hc ⊢; omega)) f2 (by simp)
  rcases rk_01 (M 2) s with hr | hr
  · refine ⟨M2, ?_, fr2, fun q => by have := q.1; omega⟩
    rw [bz_f (fun q => by have := q.1; omega)]
    rcases hp with rfl | rfl
    · refine i_aload_n rfl rfl ?_
      -- at 1
      refine i_call (T := (53, zp_53)) rfl rfl (h1) rfl rfl rfl rfl rfl rfl rfl ?_
      try dsimp only
      refine i_aload_n rfl rfl ?_
      refine i_getr rfl rfl rfl rfl (by decide) rfl ?_
      refine i_iload_n rfl rfl ?_
      refine i_aload_n rfl rfl ?_
      refine i_getr rfl rfl rfl rfl (by decide) rfl ?_
      refine i_iconst (n := 0) rfl (by unfold iR; omega) ?_
      -- at 14
      refine i_call (T := (45, zp_45)) rfl rfl (h2) rfl rfl rfl rfl rfl rfl rfl ?_
      try dsimp only
      show irun none zp_18 17 _ (iI (rk (M 2) s) :: _) _ _ 0 0 _
      rw [hr]
      refine i_if_eq_t rfl (by first | omega | assumption) ?_
      refine i_iconst (n := 0) rfl (by unfold iR; omega) ?_
      -- at 32
      exact i_zreturn rfl rfl (by first | omega | assumption)
    · refine i_aload_n rfl rfl ?_
      -- at 1
      refine i_call (T := (53, zp_53)) rfl rfl (h1) rfl rfl rfl rfl rfl rfl rfl ?_
      try dsimp only
      refine i_aload_n rfl rfl ?_
      refine i_getr rfl rfl rfl rfl (by decide) rfl ?_
      refine i_iload_n rfl rfl ?_
      refine i_aload_n rfl rfl ?_
      refine i_getr rfl rfl rfl rfl (by decide) rfl ?_
      refine i_iconst (n := 0) rfl (by unfold iR; omega) ?_
      -- at 14
      refine i_call (T := (45, zp_45)) rfl rfl (h2) rfl rfl rfl rfl rfl rfl rfl ?_
      try dsimp only
      show irun none zp_18 17 _ (iI (rk (M 2) s) :: _) _ _ 0 0 _
      rw [hr]
      refine i_if_eq_t rfl (by first | omega | assumption) ?_
      refine i_iconst (n := 0) rfl (by unfold iR; omega) ?_
      -- at 32
      exact i_zreturn rfl rfl (by first | omega | assumption)
  · have g2 := g2 hr
    obtain ⟨M3, h3, f3, g31, g32, g33, g34⟩ := c_ihead (b := b) (M := M2) hp
    rw [show M2 34 0 = rd (M 2) s 0 from g2 0 (by decide), show M2 34 1 = rd (M 2) s 1 from g2 1 (by decide)] at h3
    rw [show M2 34 2 = rd (M 2) s 2 from g2 2 (by decide)] at g32
    rw [show M2 34 3 = rd (M 2) s 3 from g2 3 (by decide)] at g33
    rw [show M2 34 4 = rd (M 2) s 4 from g2 4 (by decide)] at g34
    rw [show M2 p 1 = 0 by rw [f2 p (by rcases hp with rfl | rfl <;> decide)]; exact g11] at g31
    have j2 : M3 2 = M 2 := (f3 2 (by rcases hp with rfl | rfl <;> decide)).trans i2
    have j3 : M3 3 = M 3 := (f3 3 (by rcases hp with rfl | rfl <;> decide)).trans i3
    have fr3 : Fr [p, p + 1, 4, 34] M M3 := Fr_t fr2 f3 (by simp)
    by_cases hh : rd (M 2) s 0 = 83 ∧ rd (M 2) s 1 = 65
    · rw [bz_t hh] at h3
      by_cases h0 : rd (M 2) s 4 = 0
      · refine ⟨M3, ?_, fr3, fun q => ⟨?_, g32, g33, g34, ?_⟩⟩
        · rw [bz_t (show tk _ _ from ⟨hr, hh, Or.inl h0⟩)]
          rcases hp with rfl | rfl
          · refine i_aload_n rfl rfl ?_
            -- at 1
            refine i_call (T := (53, zp_53)) rfl rfl (h1) rfl rfl rfl rfl rfl rfl rfl ?_
            try dsimp only
            refine i_aload_n rfl rfl ?_
            refine i_getr rfl rfl rfl rfl (by decide) rfl ?_
            refine i_iload_n rfl rfl ?_
            refine i_aload_n rfl rfl ?_
            refine i_getr rfl rfl rfl rfl (by decide) rfl ?_
            refine i_iconst (n := 0) rfl (by unfold iR; omega) ?_
            -- at 14
            refine i_call (T := (45, zp_45)) rfl rfl (h2) rfl rfl rfl rfl rfl rfl rfl ?_
            try dsimp only
            show irun none zp_18 17 _ (iI (rk (M 2) s) :: _) _ _ 0 0 _
            refine i_if_eq_f rfl (by first | omega | assumption) ?_
            refine i_aload_n rfl rfl ?_
            refine i_aload_n rfl rfl ?_
            refine i_getr rfl rfl rfl rfl (by decide) rfl ?_
            -- at 25
            refine i_call (T := (63, zp_63)) rfl rfl (h3) rfl rfl rfl rfl rfl rfl rfl ?_
            try dsimp only
            show irun none zp_18 28 _ (iI (1) :: _) _ _ 0 0 _
            refine i_if_ne_t rfl (by first | omega | assumption) ?_
            refine i_aload_n rfl rfl ?_
            refine i_getf rfl rfl rfl rfl (by decide) ?_
            refine i_if_ne_f rfl (by first | omega | assumption) ?_
            refine i_iconst (n := 1) rfl (by unfold iR; omega) ?_
            -- at 41
            exact i_zreturn rfl rfl (by first | omega | assumption)
          · refine i_aload_n rfl rfl ?_
            -- at 1
            refine i_call (T := (53, zp_53)) rfl rfl (h1) rfl rfl rfl rfl rfl rfl rfl ?_
            try dsimp only
            refine i_aload_n rfl rfl ?_
            refine i_getr rfl rfl rfl rfl (by decide) rfl ?_
            refine i_iload_n rfl rfl ?_
            refine i_aload_n rfl rfl ?_
            refine i_getr rfl rfl rfl rfl (by decide) rfl ?_
            refine i_iconst (n := 0) rfl (by unfold iR; omega) ?_
            -- at 14
            refine i_call (T := (45, zp_45)) rfl rfl (h2) rfl rfl rfl rfl rfl rfl rfl ?_
            try dsimp only
            show irun none zp_18 17 _ (iI (rk (M 2) s) :: _) _ _ 0 0 _
            refine i_if_eq_f rfl (by first | omega | assumption) ?_
            refine i_aload_n rfl rfl ?_
            refine i_aload_n rfl rfl ?_
            refine i_getr rfl rfl rfl rfl (by decide) rfl ?_
            -- at 25
            refine i_call (T := (63, zp_63)) rfl rfl (h3) rfl rfl rfl rfl rfl rfl rfl ?_
            try dsimp only
            show irun none zp_18 28 _ (iI (1) :: _) _ _ 0 0 _
            refine i_if_ne_t rfl (by first | omega | assumption) ?_
            refine i_aload_n rfl rfl ?_
            refine i_getf rfl rfl rfl rfl (by decide) ?_
            refine i_if_ne_f rfl (by first | omega | assumption) ?_
            refine i_iconst (n := 1) rfl (by unfold iR; omega) ?_
            -- at 41
            exact i_zreturn rfl rfl (by first | omega | assumption)
        · unfold cn; rw [if_pos h0]; exact g31
        · intro j hj
          unfold cn at hj
          rw [if_pos h0] at hj
          omega
      · by_cases hq : 2 ≤ rd (M 2) s 3 ∧ rd (M 2) s 3 + rd (M 2) s 4 ≤ 48
        · obtain ⟨M4, h4, f4, g4⟩ := c_fetchRunF (b := b) (M := M3) (first := (rd (M 2) s 3).toNat) (cnt := (rd (M 2) s 4).toNat) (by omega) (by rw [j2]; exact hf) (by rw [j3]; exact hm)
          rw [j2] at h4 g4
          rw [show (((rd (M 2) s 3).toNat : Nat) : Int) = rd (M 2) s 3 by omega, show (((rd (M 2) s 4).toNat : Nat) : Int) = rd (M 2) s 4 by omega] at h4
          have fr4 : Fr [p, p + 1, 4, 34] M M4 := Fr_t fr3 f4 (by simp)
          have fa := c_areFree (sh := SH b) (M := M3) b3 b4
          rw [bz_t ⟨hq.1, by omega, hq.2⟩] at fa
          have k4 : M4 p = M3 p := f4 p (by rcases hp with rfl | rfl <;> decide)
          rcases lkN_01 (M 2) (rd (M 2) s 3).toNat (rd (M 2) s 4).toNat with hl | hl
          · have nt : ¬ tk (M 2) s := by
              rintro ⟨-, -, q | ⟨-, -, q, -⟩⟩
              · exact h0 q
              · omega
            refine ⟨M4, ?_, fr4, fun q => absurd q nt⟩
            rw [bz_f nt]
            rcases hp with rfl | rfl
            · refine i_aload_n rfl rfl ?_
              -- at 1
              refine i_call (T := (53, zp_53)) rfl rfl (h1) rfl rfl rfl rfl rfl rfl rfl ?_
              try dsimp only
              refine i_aload_n rfl rfl ?_
              refine i_getr rfl rfl rfl rfl (by decide) rfl ?_
              refine i_iload_n rfl rfl ?_
              refine i_aload_n rfl rfl ?_
              refine i_getr rfl rfl rfl rfl (by decide) rfl ?_
              refine i_iconst (n := 0) rfl (by unfold iR; omega) ?_
              -- at 14
              refine i_call (T := (45, zp_45)) rfl rfl (h2) rfl rfl rfl rfl rfl rfl rfl ?_
              try dsimp only
              show irun none zp_18 17 _ (iI (rk (M 2) s) :: _) _ _ 0 0 _
              refine i_if_eq_f rfl (by first | omega | assumption) ?_
              refine i_aload_n rfl rfl ?_
              refine i_aload_n rfl rfl ?_
              refine i_getr rfl rfl rfl rfl (by decide) rfl ?_
              -- at 25
              refine i_call (T := (63, zp_63)) rfl rfl (h3) rfl rfl rfl rfl rfl rfl rfl ?_
              try dsimp only
              show irun none zp_18 28 _ (iI (1) :: _) _ _ 0 0 _
              refine i_if_ne_t rfl (by first | omega | assumption) ?_
              refine i_aload_n rfl rfl ?_
              refine i_getf rfl rfl rfl rfl (by decide) ?_
              refine i_if_ne_t rfl (by first | omega | assumption) ?_
              refine i_aload_n rfl rfl ?_
              refine i_getf rfl rfl rfl rfl (by decide) ?_
              refine i_aload_n rfl rfl ?_
              refine i_getf rfl rfl rfl rfl (by decide) ?_
              -- at 50
              rw [g33, g34]
              refine i_call (T := (31, zp_31)) rfl rfl (fa) rfl rfl rfl rfl rfl rfl rfl ?_
              try dsimp only
              show irun none zp_18 53 _ (iI (1) :: _) _ _ 0 0 _
              refine i_if_eq_f rfl (by first | omega | assumption) ?_
              refine i_aload_n rfl rfl ?_
              refine i_getr rfl rfl rfl rfl (by decide) rfl ?_
              refine i_aload_n rfl rfl ?_
              refine i_getf rfl rfl rfl rfl (by decide) ?_
              refine i_aload_n rfl rfl ?_
              refine i_getf rfl rfl rfl rfl (by decide) ?_
              refine i_aload_n rfl rfl ?_
              refine i_getr rfl rfl rfl rfl (by decide) rfl ?_
              -- at 72
              rw [g33, g34]
              refine i_call (T := (46, zp_46)) rfl rfl (h4) rfl rfl rfl rfl rfl rfl rfl ?_
              try dsimp only
              show irun none zp_18 75 _ (iI (lkN (M 2) (rd (M 2) s 3).toNat (rd (M 2) s 4).toNat) :: _) _ _ 0 0 _
              rw [hl]
              refine i_if_eq_t rfl (by first | omega | assumption) ?_
              refine i_iconst (n := 0) rfl (by unfold iR; omega) ?_
              -- at 101
              exact i_zreturn rfl rfl (by first | omega | assumption)
            · refine i_aload_n rfl rfl ?_
              -- at 1
              refine i_call (T := (53, zp_53)) rfl rfl (h1) rfl rfl rfl rfl rfl rfl rfl ?_
              try dsimp only
              refine i_aload_n rfl rfl ?_
              refine i_getr rfl rfl rfl rfl (by decide) rfl ?_
              refine i_iload_n rfl rfl ?_
              refine i_aload_n rfl rfl ?_
              refine i_getr rfl rfl rfl rfl (by decide) rfl ?_
              refine i_iconst (n := 0) rfl (by unfold iR; omega) ?_
              -- at 14
              refine i_call (T := (45, zp_45)) rfl rfl (h2) rfl rfl rfl rfl rfl rfl rfl ?_
              try dsimp only
              show irun none zp_18 17 _ (iI (rk (M 2) s) :: _) _ _ 0 0 _
              refine i_if_eq_f rfl (by first | omega | assumption) ?_
              refine i_aload_n rfl rfl ?_
              refine i_aload_n rfl rfl ?_
              refine i_getr rfl rfl rfl rfl (by decide) rfl ?_
              -- at 25
              refine i_call (T := (63, zp_63)) rfl rfl (h3) rfl rfl rfl rfl rfl rfl rfl ?_
              try dsimp only
              show irun none zp_18 28 _ (iI (1) :: _) _ _ 0 0 _
              refine i_if_ne_t rfl (by first | omega | assumption) ?_
              refine i_aload_n rfl rfl ?_
              refine i_getf rfl rfl rfl rfl (by decide) ?_
              refine i_if_ne_t rfl (by first | omega | assumption) ?_
              refine i_aload_n rfl rfl ?_
              refine i_getf rfl rfl rfl rfl (by decide) ?_
              refine i_aload_n rfl rfl ?_
              refine i_getf rfl rfl rfl rfl (by decide) ?_
              -- at 50
              rw [g33, g34]
              refine i_call (T := (31, zp_31)) rfl rfl (fa) rfl rfl rfl rfl rfl rfl rfl ?_
              try dsimp only
              show irun none zp_18 53 _ (iI (1) :: _) _ _ 0 0 _
              refine i_if_eq_f rfl (by first | omega | assumption) ?_
              refine i_aload_n rfl rfl ?_
              refine i_getr rfl rfl rfl rfl (by decide) rfl ?_
              refine i_aload_n rfl rfl ?_
              refine i_getf rfl rfl rfl rfl (by decide) ?_
              refine i_aload_n rfl rfl ?_
              refine i_getf rfl rfl rfl rfl (by decide) ?_
              refine i_aload_n rfl rfl ?_
              refine i_getr rfl rfl rfl rfl (by decide) rfl ?_
              -- at 72
              rw [g33, g34]
              refine i_call (T := (46, zp_46)) rfl rfl (h4) rfl rfl rfl rfl rfl rfl rfl ?_
              try dsimp only
              show irun none zp_18 75 _ (iI (lkN (M 2) (rd (M 2) s 3).toNat (rd (M 2) s 4).toNat) :: _) _ _ 0 0 _
              rw [hl]
              refine i_if_eq_t rfl (by first | omega | assumption) ?_
              refine i_iconst (n := 0) rfl (by unfold iR; omega) ?_
              -- at 101
              exact i_zreturn rfl rfl (by first | omega | assumption)
          · have g4 := g4 hl
            have hb5 : ∀ j : Nat, (j : Int) < rd (M 2) s 4 * 11 → 0 ≤ M4 34 j ∧ M4 34 j < 256 := by
              intro j hj
              rw [g4 j (by omega)]
              exact rd_b hf (by omega) (by omega)
            obtain ⟨M5, h5, f5, g5⟩ := c_entries (b := b) (M := M4) (p := p) (room := rd (M 2) s 4 * 11) hp (by omega) hb5
            have hes : es (M4 34) (rd (M 2) s 4 * 11) ↔ es (Rd (M 2) (rd (M 2) s 3).toNat) (11 * rd (M 2) s 4) := by
              rw [Int.mul_comm 11]
              exact es_c (fun j hj => g4 j (by omega)) (by omega)
            have htk : es (M4 34) (rd (M 2) s 4 * 11) ↔ tk (M 2) s := by
              rw [hes]
              constructor
              · intro q
                exact ⟨hr, hh, Or.inr ⟨h0, hq, hl, q⟩⟩
              · rintro ⟨-, -, q | ⟨-, -, -, q⟩⟩
                · exact absurd q h0
                · exact q
            rw [bz_c htk] at h5
            rw [htk] at g5
            refine ⟨M5, ?_, Fr_t fr4 f5 (by simp), fun q => ?_⟩
            · rcases Classical.em (tk (M 2) s) with ht | ht
              · rw [bz_t ht] at h5 ⊢
                rcases hp with rfl | rfl
                · refine i_aload_n rfl rfl ?_
                  -- at 1
                  refine i_call (T := (53, zp_53)) rfl rfl (h1) rfl rfl rfl rfl rfl rfl rfl ?_
                  try dsimp only
                  refine i_aload_n rfl rfl ?_
                  refine i_getr rfl rfl rfl rfl (by decide) rfl ?_
                  refine i_iload_n rfl rfl ?_
                  refine i_aload_n rfl rfl ?_
                  refine i_getr rfl rfl rfl rfl (by decide) rfl ?_
                  refine i_iconst (n := 0) rfl (by unfold iR; omega) ?_
                  -- at 14
                  refine i_call (T := (45, zp_45)) rfl rfl (h2) rfl rfl rfl rfl rfl rfl rfl ?_
                  try dsimp only
                  show irun none zp_18 17 _ (iI (rk (M 2) s) :: _) _ _ 0 0 _
                  refine i_if_eq_f rfl (by first | omega | assumption) ?_
                  refine i_aload_n rfl rfl ?_
                  refine i_aload_n rfl rfl ?_
                  refine i_getr rfl rfl rfl rfl (by decide) rfl ?_
                  -- at 25
                  refine i_call (T := (63, zp_63)) rfl rfl (h3) rfl rfl rfl rfl rfl rfl rfl ?_
                  try dsimp only
                  show irun none zp_18 28 _ (iI (1) :: _) _ _ 0 0 _
                  refine i_if_ne_t rfl (by first | omega | assumption) ?_
                  refine i_aload_n rfl rfl ?_
                  refine i_getf rfl rfl rfl rfl (by decide) ?_
                  refine i_if_ne_t rfl (by first | omega | assumption) ?_
                  refine i_aload_n rfl rfl ?_
                  refine i_getf rfl rfl rfl rfl (by decide) ?_
                  refine i_aload_n rfl rfl ?_
                  refine i_getf rfl rfl rfl rfl (by decide) ?_
                  -- at 50
                  rw [g33, g34]
                  refine i_call (T := (31, zp_31)) rfl rfl (fa) rfl rfl rfl rfl rfl rfl rfl ?_
                  try dsimp only
                  show irun none zp_18 53 _ (iI (1) :: _) _ _ 0 0 _
                  refine i_if_eq_f rfl (by first | omega | assumption) ?_
                  refine i_aload_n rfl rfl ?_
                  refine i_getr rfl rfl rfl rfl (by decide) rfl ?_
                  refine i_aload_n rfl rfl ?_
                  refine i_getf rfl rfl rfl rfl (by decide) ?_
                  refine i_aload_n rfl rfl ?_
                  refine i_getf rfl rfl rfl rfl (by decide) ?_
                  refine i_aload_n rfl rfl ?_
                  refine i_getr rfl rfl rfl rfl (by decide) rfl ?_
                  -- at 72
                  rw [g33, g34]
                  refine i_call (T := (46, zp_46)) rfl rfl (h4) rfl rfl rfl rfl rfl rfl rfl ?_
                  try dsimp only
                  show irun none zp_18 75 _ (iI (lkN (M 2) (rd (M 2) s 3).toNat (rd (M 2) s 4).toNat) :: _) _ _ 0 0 _
                  rw [hl]
                  refine i_if_eq_f rfl (by first | omega | assumption) ?_
                  refine i_aload_n rfl rfl ?_
                  refine i_aload_n rfl rfl ?_
                  refine i_getr rfl rfl rfl rfl (by decide) rfl ?_
                  refine i_aload_n rfl rfl ?_
                  refine i_getf rfl rfl rfl rfl (by decide) ?_
                  -- at 87
                  rw [k4, g34]
                  refine i_bipush (n := 11) rfl (by unfold iR; omega) (by decide) ?_
                  refine i_imul rfl (by unfold iR; omega) ?_
                  -- at 90
                  refine i_call (T := (66, zp_66)) rfl rfl (h5) rfl rfl rfl rfl rfl rfl rfl ?_
                  try dsimp only
                  show irun none zp_18 93 _ (iI (1) :: _) _ _ 0 0 _
                  refine i_if_eq_f rfl (by first | omega | assumption) ?_
                  refine i_iconst (n := 1) rfl (by unfold iR; omega) ?_
                  refine i_goto rfl ?_
                  -- at 101
                  exact i_zreturn rfl rfl (by first | omega | assumption)
                · refine i_aload_n rfl rfl ?_
                  -- at 1
                  refine i_call (T := (53, zp_53)) rfl rfl (h1) rfl rfl rfl rfl rfl rfl rfl ?_
                  try dsimp only
                  refine i_aload_n rfl rfl ?_
                  refine i_getr rfl rfl rfl rfl (by decide) rfl ?_
                  refine i_iload_n rfl rfl ?_
                  refine i_aload_n rfl rfl ?_
                  refine i_getr rfl rfl rfl rfl (by decide) rfl ?_
                  refine i_iconst (n := 0) rfl (by unfold iR; omega) ?_
                  -- at 14
                  refine i_call (T := (45, zp_45)) rfl rfl (h2) rfl rfl rfl rfl rfl rfl rfl ?_
                  try dsimp only
                  show irun none zp_18 17 _ (iI (rk (M 2) s) :: _) _ _ 0 0 _
                  refine i_if_eq_f rfl (by first | omega | assumption) ?_
                  refine i_aload_n rfl rfl ?_
                  refine i_aload_n rfl rfl ?_
                  refine i_getr rfl rfl rfl rfl (by decide) rfl ?_
                  -- at 25
                  refine i_call (T := (63, zp_63)) rfl rfl (h3) rfl rfl rfl rfl rfl rfl rfl ?_
                  try dsimp only
                  show irun none zp_18 28 _ (iI (1) :: _) _ _ 0 0 _
                  refine i_if_ne_t rfl (by first | omega | assumption) ?_
                  refine i_aload_n rfl rfl ?_
                  refine i_getf rfl rfl rfl rfl (by decide) ?_
                  refine i_if_ne_t rfl (by first | omega | assumption) ?_
                  refine i_aload_n rfl rfl ?_
                  refine i_getf rfl rfl rfl rfl (by decide) ?_
                  refine i_aload_n rfl rfl ?_
                  refine i_getf rfl rfl rfl rfl (by decide) ?_
                  -- at 50
                  rw [g33, g34]
                  refine i_call (T := (31, zp_31)) rfl rfl (fa) rfl rfl rfl rfl rfl rfl rfl ?_
                  try dsimp only
                  show irun none zp_18 53 _ (iI (1) :: _) _ _ 0 0 _
                  refine i_if_eq_f rfl (by first | omega | assumption) ?_
                  refine i_aload_n rfl rfl ?_
                  refine i_getr rfl rfl rfl rfl (by decide) rfl ?_
                  refine i_aload_n rfl rfl ?_
                  refine i_getf rfl rfl rfl rfl (by decide) ?_
                  refine i_aload_n rfl rfl ?_
                  refine i_getf rfl rfl rfl rfl (by decide) ?_
                  refine i_aload_n rfl rfl ?_
                  refine i_getr rfl rfl rfl rfl (by decide) rfl ?_
                  -- at 72
                  rw [g33, g34]
                  refine i_call (T := (46, zp_46)) rfl rfl (h4) rfl rfl rfl rfl rfl rfl rfl ?_
                  try dsimp only
                  show irun none zp_18 75 _ (iI (lkN (M 2) (rd (M 2) s 3).toNat (rd (M 2) s 4).toNat) :: _) _ _ 0 0 _
                  rw [hl]
                  refine i_if_eq_f rfl (by first | omega | assumption) ?_
                  refine i_aload_n rfl rfl ?_
                  refine i_aload_n rfl rfl ?_
                  refine i_getr rfl rfl rfl rfl (by decide) rfl ?_
                  refine i_aload_n rfl rfl ?_
                  refine i_getf rfl rfl rfl rfl (by decide) ?_
                  -- at 87
                  rw [k4, g34]
                  refine i_bipush (n := 11) rfl (by unfold iR; omega) (by decide) ?_
                  refine i_imul rfl (by unfold iR; omega) ?_
                  -- at 90
                  refine i_call (T := (66, zp_66)) rfl rfl (h5) rfl rfl rfl rfl rfl rfl rfl ?_
                  try dsimp only
                  show irun none zp_18 93 _ (iI (1) :: _) _ _ 0 0 _
                  refine i_if_eq_f rfl (by first | omega | assumption) ?_
                  refine i_iconst (n := 1) rfl (by unfold iR; omega) ?_
                  refine i_goto rfl ?_
                  -- at 101
                  exact i_zreturn rfl rfl (by first | omega | assumption)
              · rw [bz_f ht] at h5 ⊢
                rcases hp with rfl | rfl
                · refine i_aload_n rfl rfl ?_
                  -- at 1
                  refine i_call (T := (53, zp_53)) rfl rfl (h1) rfl rfl rfl rfl rfl rfl rfl ?_
                  try dsimp only
                  refine i_aload_n rfl rfl ?_
                  refine i_getr rfl rfl rfl rfl (by decide) rfl ?_
                  refine i_iload_n rfl rfl ?_
                  refine i_aload_n rfl rfl ?_
                  refine i_getr rfl rfl rfl rfl (by decide) rfl ?_
                  refine i_iconst (n := 0) rfl (by unfold iR; omega) ?_
                  -- at 14
                  refine i_call (T := (45, zp_45)) rfl rfl (h2) rfl rfl rfl rfl rfl rfl rfl ?_
                  try dsimp only
                  show irun none zp_18 17 _ (iI (rk (M 2) s) :: _) _ _ 0 0 _
                  refine i_if_eq_f rfl (by first | omega | assumption) ?_
                  refine i_aload_n rfl rfl ?_
                  refine i_aload_n rfl rfl ?_
                  refine i_getr rfl rfl rfl rfl (by decide) rfl ?_
                  -- at 25
                  refine i_call (T := (63, zp_63)) rfl rfl (h3) rfl rfl rfl rfl rfl rfl rfl ?_
                  try dsimp only
                  show irun none zp_18 28 _ (iI (1) :: _) _ _ 0 0 _
                  refine i_if_ne_t rfl (by first | omega | assumption) ?_
                  refine i_aload_n rfl rfl ?_
                  refine i_getf rfl rfl rfl rfl (by decide) ?_
                  refine i_if_ne_t rfl (by first | omega | assumption) ?_
                  refine i_aload_n rfl rfl ?_
                  refine i_getf rfl rfl rfl rfl (by decide) ?_
                  refine i_aload_n rfl rfl ?_
                  refine i_getf rfl rfl rfl rfl (by decide) ?_
                  -- at 50
                  rw [g33, g34]
                  refine i_call (T := (31, zp_31)) rfl rfl (fa) rfl rfl rfl rfl rfl rfl rfl ?_
                  try dsimp only
                  show irun none zp_18 53 _ (iI (1) :: _) _ _ 0 0 _
                  refine i_if_eq_f rfl (by first | omega | assumption) ?_
                  refine i_aload_n rfl rfl ?_
                  refine i_getr rfl rfl rfl rfl (by decide) rfl ?_
                  refine i_aload_n rfl rfl ?_
                  refine i_getf rfl rfl rfl rfl (by decide) ?_
                  refine i_aload_n rfl rfl ?_
                  refine i_getf rfl rfl rfl rfl (by decide) ?_
                  refine i_aload_n rfl rfl ?_
                  refine i_getr rfl rfl rfl rfl (by decide) rfl ?_
                  -- at 72
                  rw [g33, g34]
                  refine i_call (T := (46, zp_46)) rfl rfl (h4) rfl rfl rfl rfl rfl rfl rfl ?_
                  try dsimp only
                  show irun none zp_18 75 _ (iI (lkN (M 2) (rd (M 2) s 3).toNat (rd (M 2) s 4).toNat) :: _) _ _ 0 0 _
                  rw [hl]
                  refine i_if_eq_f rfl (by first | omega | assumption) ?_
                  refine i_aload_n rfl rfl ?_
                  refine i_aload_n rfl rfl ?_
                  refine i_getr rfl rfl rfl rfl (by decide) rfl ?_
                  refine i_aload_n rfl rfl ?_
                  refine i_getf rfl rfl rfl rfl (by decide) ?_
                  -- at 87
                  rw [k4, g34]
                  refine i_bipush (n := 11) rfl (by unfold iR; omega) (by decide) ?_
                  refine i_imul rfl (by unfold iR; omega) ?_
                  -- at 90
                  refine i_call (T := (66, zp_66)) rfl rfl (h5) rfl rfl rfl rfl rfl rfl rfl ?_
                  try dsimp only
                  show irun none zp_18 93 _ (iI (0) :: _) _ _ 0 0 _
                  refine i_if_eq_t rfl (by first | omega | assumption) ?_
                  refine i_iconst (n := 0) rfl (by unfold iR; omega) ?_
                  -- at 101
                  exact i_zreturn rfl rfl (by first | omega | assumption)
                · refine i_aload_n rfl rfl ?_
                  -- at 1
                  refine i_call (T := (53, zp_53)) rfl rfl (h1) rfl rfl rfl rfl rfl rfl rfl ?_
                  try dsimp only
                  refine i_aload_n rfl rfl ?_
                  refine i_getr rfl rfl rfl rfl (by decide) rfl ?_
                  refine i_iload_n rfl rfl ?_
                  refine i_aload_n rfl rfl ?_
                  refine i_getr rfl rfl rfl rfl (by decide) rfl ?_
                  refine i_iconst (n := 0) rfl (by unfold iR; omega) ?_
                  -- at 14
                  refine i_call (T := (45, zp_45)) rfl rfl (h2) rfl rfl rfl rfl rfl rfl rfl ?_
                  try dsimp only
                  show irun none zp_18 17 _ (iI (rk (M 2) s) :: _) _ _ 0 0 _
                  refine i_if_eq_f rfl (by first | omega | assumption) ?_
                  refine i_aload_n rfl rfl ?_
                  refine i_aload_n rfl rfl ?_
                  refine i_getr rfl rfl rfl rfl (by decide) rfl ?_
                  -- at 25
                  refine i_call (T := (63, zp_63)) rfl rfl (h3) rfl rfl rfl rfl rfl rfl rfl ?_
                  try dsimp only
                  show irun none zp_18 28 _ (iI (1) :: _) _ _ 0 0 _
                  refine i_if_ne_t rfl (by first | omega | assumption) ?_
                  refine i_aload_n rfl rfl ?_
                  refine i_getf rfl rfl rfl rfl (by decide) ?_
                  refine i_if_ne_t rfl (by first | omega | assumption) ?_
                  refine i_aload_n rfl rfl ?_
                  refine i_getf rfl rfl rfl rfl (by decide) ?_
                  refine i_aload_n rfl rfl ?_
                  refine i_getf rfl rfl rfl rfl (by decide) ?_
                  -- at 50
                  rw [g33, g34]
                  refine i_call (T := (31, zp_31)) rfl rfl (fa) rfl rfl rfl rfl rfl rfl rfl ?_
                  try dsimp only
                  show irun none zp_18 53 _ (iI (1) :: _) _ _ 0 0 _
                  refine i_if_eq_f rfl (by first | omega | assumption) ?_
                  refine i_aload_n rfl rfl ?_
                  refine i_getr rfl rfl rfl rfl (by decide) rfl ?_
                  refine i_aload_n rfl rfl ?_
                  refine i_getf rfl rfl rfl rfl (by decide) ?_
                  refine i_aload_n rfl rfl ?_
                  refine i_getf rfl rfl rfl rfl (by decide) ?_
                  refine i_aload_n rfl rfl ?_
                  refine i_getr rfl rfl rfl rfl (by decide) rfl ?_
                  -- at 72
                  rw [g33, g34]
                  refine i_call (T := (46, zp_46)) rfl rfl (h4) rfl rfl rfl rfl rfl rfl rfl ?_
                  try dsimp only
                  show irun none zp_18 75 _ (iI (lkN (M 2) (rd (M 2) s 3).toNat (rd (M 2) s 4).toNat) :: _) _ _ 0 0 _
                  rw [hl]
                  refine i_if_eq_f rfl (by first | omega | assumption) ?_
                  refine i_aload_n rfl rfl ?_
                  refine i_aload_n rfl rfl ?_
                  refine i_getr rfl rfl rfl rfl (by decide) rfl ?_
                  refine i_aload_n rfl rfl ?_
                  refine i_getf rfl rfl rfl rfl (by decide) ?_
                  -- at 87
                  rw [k4, g34]
                  refine i_bipush (n := 11) rfl (by unfold iR; omega) (by decide) ?_
                  refine i_imul rfl (by unfold iR; omega) ?_
                  -- at 90
                  refine i_call (T := (66, zp_66)) rfl rfl (h5) rfl rfl rfl rfl rfl rfl rfl ?_
                  try dsimp only
                  show irun none zp_18 93 _ (iI (0) :: _) _ _ 0 0 _
                  refine i_if_eq_t rfl (by first | omega | assumption) ?_
                  refine i_iconst (n := 0) rfl (by unfold iR; omega) ?_
                  -- at 101
                  exact i_zreturn rfl rfl (by first | omega | assumption)
            · obtain ⟨a1, a2, a3, a4, a5⟩ := g5 q
              have e0 : M4 34 0 = cn (M 2) s := by
                rw [g4 0 (by omega)]
                unfold cn
                rw [if_neg h0]
              rw [k4] at a2 a3 a4
              refine ⟨a1.trans e0, a2.trans g32, a3.trans g33, a4.trans g34, fun j hj => ?_⟩
              rw [← e0] at hj
              obtain ⟨q1, q2, q3, -⟩ := htk.mpr q
              rw [a5 j hj, g4 (1 + j) (by omega)]
              rfl
        · have nt : ¬ tk (M 2) s := by
            rintro ⟨-, -, q | ⟨-, q, -⟩⟩
            · exact h0 q
            · exact hq q
          have fa := c_areFree (sh := SH b) (M := M3) b3 b4
          rw [bz_f (fun q => hq ⟨q.1, q.2.2⟩)] at fa
          refine ⟨M3, ?_, fr3, fun q => absurd q nt⟩
          rw [bz_f nt]
          rcases hp with rfl | rfl
          · refine i_aload_n rfl rfl ?_
            -- at 1
            refine i_call (T := (53, zp_53)) rfl rfl (h1) rfl rfl rfl rfl rfl rfl rfl ?_
            try dsimp only
            refine i_aload_n rfl rfl ?_
            refine i_getr rfl rfl rfl rfl (by decide) rfl ?_
            refine i_iload_n rfl rfl ?_
            refine i_aload_n rfl rfl ?_
            refine i_getr rfl rfl rfl rfl (by decide) rfl ?_
            refine i_iconst (n := 0) rfl (by unfold iR; omega) ?_
            -- at 14
            refine i_call (T := (45, zp_45)) rfl rfl (h2) rfl rfl rfl rfl rfl rfl rfl ?_
            try dsimp only
            show irun none zp_18 17 _ (iI (rk (M 2) s) :: _) _ _ 0 0 _
            refine i_if_eq_f rfl (by first | omega | assumption) ?_
            refine i_aload_n rfl rfl ?_
            refine i_aload_n rfl rfl ?_
            refine i_getr rfl rfl rfl rfl (by decide) rfl ?_
            -- at 25
            refine i_call (T := (63, zp_63)) rfl rfl (h3) rfl rfl rfl rfl rfl rfl rfl ?_
            try dsimp only
            show irun none zp_18 28 _ (iI (1) :: _) _ _ 0 0 _
            refine i_if_ne_t rfl (by first | omega | assumption) ?_
            refine i_aload_n rfl rfl ?_
            refine i_getf rfl rfl rfl rfl (by decide) ?_
            refine i_if_ne_t rfl (by first | omega | assumption) ?_
            refine i_aload_n rfl rfl ?_
            refine i_getf rfl rfl rfl rfl (by decide) ?_
            refine i_aload_n rfl rfl ?_
            refine i_getf rfl rfl rfl rfl (by decide) ?_
            -- at 50
            rw [g33, g34]
            refine i_call (T := (31, zp_31)) rfl rfl (fa) rfl rfl rfl rfl rfl rfl rfl ?_
            try dsimp only
            show irun none zp_18 53 _ (iI (0) :: _) _ _ 0 0 _
            refine i_if_eq_t rfl (by first | omega | assumption) ?_
            refine i_iconst (n := 0) rfl (by unfold iR; omega) ?_
            -- at 101
            exact i_zreturn rfl rfl (by first | omega | assumption)
          · refine i_aload_n rfl rfl ?_
            -- at 1
            refine i_call (T := (53, zp_53)) rfl rfl (h1) rfl rfl rfl rfl rfl rfl rfl ?_
            try dsimp only
            refine i_aload_n rfl rfl ?_
            refine i_getr rfl rfl rfl rfl (by decide) rfl ?_
            refine i_iload_n rfl rfl ?_
            refine i_aload_n rfl rfl ?_
            refine i_getr rfl rfl rfl rfl (by decide) rfl ?_
            refine i_iconst (n := 0) rfl (by unfold iR; omega) ?_
            -- at 14
            refine i_call (T := (45, zp_45)) rfl rfl (h2) rfl rfl rfl rfl rfl rfl rfl ?_
            try dsimp only
            show irun none zp_18 17 _ (iI (rk (M 2) s) :: _) _ _ 0 0 _
            refine i_if_eq_f rfl (by first | omega | assumption) ?_
            refine i_aload_n rfl rfl ?_
            refine i_aload_n rfl rfl ?_
            refine i_getr rfl rfl rfl rfl (by decide) rfl ?_
            -- at 25
            refine i_call (T := (63, zp_63)) rfl rfl (h3) rfl rfl rfl rfl rfl rfl rfl ?_
            try dsimp only
            show irun none zp_18 28 _ (iI (1) :: _) _ _ 0 0 _
            refine i_if_ne_t rfl (by first | omega | assumption) ?_
            refine i_aload_n rfl rfl ?_
            refine i_getf rfl rfl rfl rfl (by decide) ?_
            refine i_if_ne_t rfl (by first | omega | assumption) ?_
            refine i_aload_n rfl rfl ?_
            refine i_getf rfl rfl rfl rfl (by decide) ?_
            refine i_aload_n rfl rfl ?_
            refine i_getf rfl rfl rfl rfl (by decide) ?_
            -- at 50
            rw [g33, g34]
            refine i_call (T := (31, zp_31)) rfl rfl (fa) rfl rfl rfl rfl rfl rfl rfl ?_
            try dsimp only
            show irun none zp_18 53 _ (iI (0) :: _) _ _ 0 0 _
            refine i_if_eq_t rfl (by first | omega | assumption) ?_
            refine i_iconst (n := 0) rfl (by unfold iR; omega) ?_
            -- at 101
            exact i_zreturn rfl rfl (by first | omega | assumption)
    · refine ⟨M3, ?_, fr3, fun q => absurd q.2.1 hh⟩
      rw [bz_f hh] at h3
      rw [bz_f (fun q => hh q.2.1)]
      rcases hp with rfl | rfl
      · refine i_aload_n rfl rfl ?_
        -- at 1
        refine i_call (T := (53, zp_53)) rfl rfl (h1) rfl rfl rfl rfl rfl rfl rfl ?_
        try dsimp only
        refine i_aload_n rfl rfl ?_
        refine i_getr rfl rfl rfl rfl (by decide) rfl ?_
        refine i_iload_n rfl rfl ?_
        refine i_aload_n rfl rfl ?_
        refine i_getr rfl rfl rfl rfl (by decide) rfl ?_
        refine i_iconst (n := 0) rfl (by unfold iR; omega) ?_
        -- at 14
        refine i_call (T := (45, zp_45)) rfl rfl (h2) rfl rfl rfl rfl rfl rfl rfl ?_
        try dsimp only
        show irun none zp_18 17 _ (iI (rk (M 2) s) :: _) _ _ 0 0 _
        refine i_if_eq_f rfl (by first | omega | assumption) ?_
        refine i_aload_n rfl rfl ?_
        refine i_aload_n rfl rfl ?_
        refine i_getr rfl rfl rfl rfl (by decide) rfl ?_
        -- at 25
        refine i_call (T := (63, zp_63)) rfl rfl (h3) rfl rfl rfl rfl rfl rfl rfl ?_
        try dsimp only
        show irun none zp_18 28 _ (iI (0) :: _) _ _ 0 0 _
        refine i_if_ne_f rfl (by first | omega | assumption) ?_
        refine i_iconst (n := 0) rfl (by unfold iR; omega) ?_
        -- at 32
        exact i_zreturn rfl rfl (by first | omega | assumption)
      · refine i_aload_n rfl rfl ?_
        -- at 1
        refine i_call (T := (53, zp_53)) rfl rfl (h1) rfl rfl rfl rfl rfl rfl rfl ?_
        try dsimp only
        refine i_aload_n rfl rfl ?_
        refine i_getr rfl rfl rfl rfl (by decide) rfl ?_
        refine i_iload_n rfl rfl ?_
        refine i_aload_n rfl rfl ?_
        refine i_getr rfl rfl rfl rfl (by decide) rfl ?_
        refine i_iconst (n := 0) rfl (by unfold iR; omega) ?_
        -- at 14
        refine i_call (T := (45, zp_45)) rfl rfl (h2) rfl rfl rfl rfl rfl rfl rfl ?_
        try dsimp only
        show irun none zp_18 17 _ (iI (rk (M 2) s) :: _) _ _ 0 0 _
        refine i_if_eq_f rfl (by first | omega | assumption) ?_
        refine i_aload_n rfl rfl ?_
        refine i_aload_n rfl rfl ?_
        refine i_getr rfl rfl rfl rfl (by decide) rfl ?_
        -- at 25
        refine i_call (T := (63, zp_63)) rfl rfl (h3) rfl rfl rfl rfl rfl rfl rfl ?_
        try dsimp only
        show irun none zp_18 28 _ (iI (0) :: _) _ _ 0 0 _
        refine i_if_ne_f rfl (by first | omega | assumption) ?_
        refine i_iconst (n := 0) rfl (by unfold iR; omega) ?_
        -- at 32
        exact i_zreturn rfl rfl (by first | omega | assumption)
