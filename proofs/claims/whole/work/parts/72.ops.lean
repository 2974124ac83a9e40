def wb (w : Int64) (k : Nat) : Int := ((w >>> ((Int32.ofInt (8 * (k : Int))).toInt64 &&& 63)) &&& Int64.ofNat 255).toInt32.toInt
theorem wb_b (w : Int64) (k : Nat) : 0 ≤ wb w k ∧ wb w k < 256 := lsh_r _
abbrev wd (f : Nat → Int) (d n : Nat) (w : Int64) : Nat → Int := fun j => if d ≤ j ∧ j < d + n then wb w (j - d) else f j
theorem wd_s {f : Nat → Int} {d k : Nat} {w : Int64} {a : Int} (ha : a = wb w k) : va_up (wd f d k w) (d + k) a = wd f d (k + 1) w := by
  funext j
  have e : wb w k = wb w (d + k - d) := by rw [show d + k - d = k by omega]
  unfold wd
  grind [va_up]
set_option maxRecDepth 100000 in
theorem c_append {b : Bool} {M : iM} {d n : Nat} {w : Int64} (hd : M 5 5 = d) (h1 : 1 ≤ n) (h8 : n ≤ 8) (h24 : d + n ≤ 24) : irun none zp_71 0 (i_ent [iP 5, iI (n : Int), iL w] 5) [] (SH b) M 0 0 (some 1, SH b, va_up (va_up M 6 (wd (M 6) d n w)) 5 (va_up (M 5) 5 ((d + n : Nat) : Int))) := by
  have loop : ∀ (c k : Nat), k + c = n → irun none zp_71 27 [some (iP 5), some (iI (n : Int)), some (iL w), none, some (iI (k : Int))] [] (SH b) (va_up (va_up M 6 (wd (M 6) d k w)) 5 (va_up (M 5) 5 ((d + k : Nat) : Int))) 0 0 (some 1, SH b, va_up (va_up M 6 (wd (M 6) d n w)) 5 (va_up (M 5) 5 ((d + n : Nat) : Int))) := by
    intro c
    induction c with
    | zero =>
      intro k hk
      obtain rfl : k = n := by omega
      refine i_iload rfl rfl ?_
      refine i_iload_n rfl rfl ?_
      refine i_icmp_ge_t rfl (by first | omega | assumption) ?_
      refine i_iconst (n := 1) rfl (by unfold iR; omega) ?_
      -- at 71
      exact i_zreturn rfl rfl (by first | omega | assumption)
    | succ c ih =>
      intro k hk
      have hn := ih (k + 1) (by omega)
      refine i_iload rfl rfl ?_
      refine i_iload_n rfl rfl ?_
      refine i_icmp_ge_f rfl (by first | omega | assumption) ?_
      refine i_aload_n rfl rfl ?_
      refine i_getr rfl rfl rfl rfl (by decide) rfl ?_
      refine i_aload_n rfl rfl ?_
      refine i_getf rfl rfl rfl rfl (by decide) ?_
      -- at 41
      show irun none zp_71 41 _ [iI ((d + k : Nat) : Int), iP 6] _ _ 0 0 _
      refine i_lload_n rfl rfl ?_
      refine i_bipush (n := 8) rfl (by unfold iR; omega) (by decide) ?_
      refine i_iload rfl rfl ?_
      refine i_imul rfl (by unfold iR; omega) ?_
      refine i_lushr rfl ?_
      refine i_ldc2 rfl ?_
      refine i_land rfl ?_
      refine i_l2i rfl ?_
      refine i_iast rfl rfl (by first | omega | assumption) (by first | omega | assumption) ?_
      refine i_aload_n rfl rfl ?_
      first | refine i_dup rfl ?_ | refine i_dupr rfl ?_
      -- at 56
      rw [show ((d + k : Nat) : Int).toNat = d + k by omega, show i_st (va_up (va_up M 6 (wd (M 6) d k w)) 5 (va_up (M 5) 5 ((d + k : Nat) : Int))) 6 (d + k) ((w.toUInt64 >>> ((Int32.ofInt (8 * (k : Int))).toInt64.toUInt64 &&& Int64.toUInt64 63)).toInt64 &&& Int64.ofNat 255).toInt32.toInt = va_up (va_up M 6 (wd (M 6) d (k + 1) w)) 5 (va_up (M 5) 5 ((d + k : Nat) : Int)) by
        rw [up_sw (c := 6) (d := 5) (by decide), st_up (g := wd (M 6) d (k + 1) w), up_sw (c := 5) (d := 6) (by decide)]
        exact wd_s (by rw [lsh_b w k (by omega)]; rfl)]
      refine i_getf rfl rfl rfl rfl (by decide) ?_
      show irun none zp_71 59 _ [iI ((d + k : Nat) : Int), iP 5] _ _ 0 0 _
      refine i_iconst (n := 1) rfl (by unfold iR; omega) ?_
      refine i_iadd rfl (by unfold iR; omega) ?_
      refine i_puti rfl rfl rfl rfl ?_
      refine i_iinc rfl rfl (by unfold iR; omega) (Nat.le_of_ble_eq_true rfl) rfl ?_
      refine i_goto rfl ?_
      -- at 27
      rw [up_st, show va_up (va_up (M 5) 5 ((d + k : Nat) : Int)) 5 (((d + k : Nat) : Int) + 1) = va_up (M 5) 5 ((d + (k + 1) : Nat) : Int) by
        funext j
        unfold va_up
        split <;> rfl]
      exact hn
  have h0 := loop n 0 (by omega)
  rw [show wd (M 6) d 0 w = M 6 by funext j; unfold wd; rw [if_neg (by omega)], up_id M 6 rfl, up_id M 5 (f := va_up (M 5) 5 ((d + 0 : Nat) : Int)) (by
    funext j
    unfold va_up
    split
    · rename_i e
      rw [e, hd]
      rfl
    · rfl)] at h0
  have hg : 0 ≤ M 5 5 ∧ M 5 5 ≤ 24 := by omega
  refine i_iload_n rfl rfl ?_
  refine i_iconst (n := 1) rfl (by unfold iR; omega) ?_
  refine i_icmp_lt_f rfl (by first | omega | assumption) ?_
  refine i_iload_n rfl rfl ?_
  refine i_bipush (n := 8) rfl (by unfold iR; omega) (by decide) ?_
  refine i_icmp_gt_f rfl (by first | omega | assumption) ?_
  refine i_aload_n rfl rfl ?_
  refine i_getf rfl rfl rfl rfl (by decide) ?_
  refine i_iload_n rfl rfl ?_
  refine i_iadd rfl (by unfold iR; omega) ?_
  refine i_bipush (n := 24) rfl (by unfold iR; omega) (by decide) ?_
  refine i_icmp_le_t rfl (by first | omega | assumption) ?_
  refine i_iconst (n := 0) rfl (by unfold iR; omega) ?_
  refine i_istore rfl (Nat.le_of_ble_eq_true rfl) rfl ?_
  -- at 27
  exact h0
set_option maxRecDepth 100000 in
theorem d_write {b : Bool} {M : iM} {d n : Nat} {w : Int64} (hdn : M 40 1 = 0) (hd : M 40 12 = d) (h1 : 1 ≤ n) (h8 : n ≤ 8) (h24 : d + n ≤ 24) : irun none zp_144 0 (i_ent [iP 40, iI (n : Int), iL w] 5) [] (SH b) M 0 0 (some 1, SH b, va_up (va_up M 45 (wd (M 45) d n w)) 40 (va_up (M 40) 12 ((d + n : Nat) : Int))) := by
  have loop : ∀ (c k : Nat), k + c = n → irun none zp_144 34 [some (iP 40), some (iI (n : Int)), some (iL w), none, some (iI (k : Int))] [] (SH b) (va_up M 45 (wd (M 45) d k w)) 0 0 (some 1, SH b, va_up (va_up M 45 (wd (M 45) d n w)) 40 (va_up (M 40) 12 ((d + n : Nat) : Int))) := by
    intro c
    induction c with
    | zero =>
      intro k hk
      obtain rfl : k = n := by omega
      refine i_iload rfl rfl ?_
      refine i_iload_n rfl rfl ?_
      refine i_icmp_ge_t rfl (by first | omega | assumption) ?_
      refine i_aload_n rfl rfl ?_
      refine i_aload_n rfl rfl ?_
      refine i_getf rfl rfl rfl rfl (by decide) ?_
      -- at 75
      show irun none zp_144 75 _ [iI (M 40 12), iP 40] _ _ 0 0 _
      rw [hd]
      refine i_iload_n rfl rfl ?_
      refine i_iadd rfl (by unfold iR; omega) ?_
      refine i_puti rfl rfl rfl rfl ?_
      refine i_iconst (n := 1) rfl (by unfold iR; omega) ?_
      -- at 81
      rw [st_M (g := va_up (M 40) 12 ((d + k : Nat) : Int))]
      · exact i_zreturn rfl rfl (by first | omega | assumption)
      · funext j
        unfold va_up
        split <;> rfl
    | succ c ih =>
      intro k hk
      have hn := ih (k + 1) (by omega)
      refine i_iload rfl rfl ?_
      refine i_iload_n rfl rfl ?_
      refine i_icmp_ge_f rfl (by first | omega | assumption) ?_
      refine i_aload_n rfl rfl ?_
      refine i_getr rfl rfl rfl rfl (by decide) rfl ?_
      refine i_aload_n rfl rfl ?_
      refine i_getf rfl rfl rfl rfl (by decide) ?_
      -- at 48
      show irun none zp_144 48 _ [iI (M 40 12), iP 45] _ _ 0 0 _
      rw [hd]
      refine i_iload rfl rfl ?_
      refine i_iadd rfl (by unfold iR; omega) ?_
      refine i_lload_n rfl rfl ?_
      refine i_bipush (n := 8) rfl (by unfold iR; omega) (by decide) ?_
      refine i_iload rfl rfl ?_
      refine i_imul rfl (by unfold iR; omega) ?_
      refine i_lshr rfl ?_
      refine i_ldc2 rfl ?_
      refine i_land rfl ?_
      refine i_l2i rfl ?_
      refine i_iast rfl rfl (by first | omega | assumption) (by first | omega | assumption) ?_
      refine i_iinc rfl rfl (by unfold iR; omega) (Nat.le_of_ble_eq_true rfl) rfl ?_
      refine i_goto rfl ?_
      -- at 34
      rw [show ((d : Int) + (k : Int)).toNat = d + k by omega, st_up (g := wd (M 45) d (k + 1) w)]
      · exact hn
      · exact wd_s rfl
  have h0 := loop n 0 (by omega)
  rw [show wd (M 45) d 0 w = M 45 by funext j; unfold wd; rw [if_neg (by omega)], up_id M 45 rfl] at h0
  refine i_aload_n rfl rfl ?_
  refine i_getf rfl rfl rfl rfl (by decide) ?_
  refine i_if_ne_f rfl (by first | omega | assumption) ?_
  refine i_iload_n rfl rfl ?_
  refine i_iconst (n := 1) rfl (by unfold iR; omega) ?_
  refine i_icmp_lt_f rfl (by first | omega | assumption) ?_
  refine i_iload_n rfl rfl ?_
  refine i_bipush (n := 8) rfl (by unfold iR; omega) (by decide) ?_
  refine i_icmp_gt_f rfl (by first | omega | assumption) ?_
  refine i_aload_n rfl rfl ?_
  refine i_getf rfl rfl rfl rfl (by decide) ?_
  refine i_iload_n rfl rfl ?_
  refine i_iadd rfl (by unfold iR; omega) ?_
  refine i_bipush (n := 24) rfl (by unfold iR; omega) (by decide) ?_
  refine i_icmp_le_t rfl (by first | omega | assumption) ?_
  refine i_iconst (n := 0) rfl (by unfold iR; omega) ?_
  refine i_istore rfl (Nat.le_of_ble_eq_true rfl) rfl ?_
  -- at 34
  exact h0
set_option maxRecDepth 100000 in
theorem o_write {w : Int} {b : Bool} {M : iM} {n : Int} {v : Int64} (h : Inv w b M) : Op w b M zp_1 zp_144 [iI n, iL v] := by
  have hi := h
  obtain ⟨h1, ⟨a1, a2, a3⟩, h3, h4, ⟨⟨e1, e2, e3⟩, e4⟩, h6, h7, h8⟩ := hi
  rcases a1 with a1 | a1
  · by_cases hn : 1 ≤ n ∧ n ≤ 8 ∧ M 5 5 + n ≤ 24
    · obtain ⟨n, rfl⟩ := Int.eq_ofNat_of_zero_le (show 0 ≤ n by omega)
      obtain ⟨d, hd⟩ := Int.eq_ofNat_of_zero_le e2
      have hd : M 5 5 = (d : Int) := hd
      refine ⟨1, b, va_up (va_up M 6 (wd (M 6) d n v)) 5 (va_up (M 5) 5 ((d + n : Nat) : Int)), va_up (va_up (va_up (va_up M 6 (wd (M 6) d n v)) 5 (va_up (M 5) 5 ((d + n : Nat) : Int))) 45 (wd (M 45) d n v)) 40 (va_up (M 40) 12 ((d + n : Nat) : Int)), ?_, ?_, ?_⟩
      · refine i_aload_n rfl rfl ?_
        refine i_getr rfl rfl rfl rfl (by decide) rfl ?_
        -- at 4
        refine i_call (T := (34, zp_34)) rfl rfl (c_isStopped (Or.inl a1)) rfl rfl rfl rfl rfl rfl rfl ?_
        try dsimp only
        show irun none zp_1 7 _ [iI (M 1 4)] _ _ 0 0 _
        refine i_if_ne_f rfl (by first | omega | assumption) ?_
        refine i_aload_n rfl rfl ?_
        refine i_getr rfl rfl rfl rfl (by decide) rfl ?_
        refine i_iload_n rfl rfl ?_
        refine i_lload_n rfl rfl ?_
        -- at 16
        refine i_call (T := (71, zp_71)) rfl rfl (c_append (n := n) (w := v) hd (by omega) (by omega) (by omega)) rfl rfl rfl rfl rfl rfl rfl ?_
        try dsimp only
        refine i_if_eq_f rfl (by first | omega | assumption) ?_
        refine i_iconst (n := 1) rfl (by unfold iR; omega) ?_
        refine i_goto rfl ?_
        -- at 27
        exact i_zreturn rfl rfl (by first | omega | assumption)
      · exact d_write (M := va_up (va_up M 6 (wd (M 6) d n v)) 5 (va_up (M 5) 5 ((d + n : Nat) : Int))) (a2.trans a1) (e1.trans hd) (by omega) (by omega) (by omega)
      · refine ⟨h1, (Inv_w (w := w) (v := w + 300) h (by omega)).2.1, ?_, h4, ⟨⟨rfl, ?_, ?_⟩, fun k hk => ?_⟩, h6, ?_, h8⟩
        · cases b <;> exact h3
        · show (0 : Int) ≤ ((d + n : Nat) : Int)
          omega
        · show ((d + n : Nat) : Int) ≤ 24
          omega
        · have hk : (k : Int) < ((d + n : Nat) : Int) := hk
          show wd (M 45) d n v k = wd (M 6) d n v k ∧ 0 ≤ wd (M 6) d n v k ∧ wd (M 6) d n v k < 256
          unfold wd
          by_cases c : d ≤ k ∧ k < d + n
          · rw [if_pos c, if_pos c]
            exact ⟨rfl, wb_b _ _⟩
          · rw [if_neg c, if_neg c]
            exact e4 k (by omega)
        · cases b <;> exact h7
    · refine ⟨0, b, M, M, ?_, ?_, Inv_w h (by omega)⟩
      · have hap : irun none zp_71 0 (i_ent [iP 5, iI n, iL v] 5) [] (SH b) M 0 0 (some 0, SH b, M) := by
          by_cases c1 : n < 1
          · refine i_iload_n rfl rfl ?_
            refine i_iconst (n := 1) rfl (by unfold iR; omega) ?_
            refine i_icmp_lt_t rfl (by first | omega | assumption) ?_
            refine i_iconst (n := 0) rfl (by unfold iR; omega) ?_
            -- at 23
            exact i_zreturn rfl rfl (by first | omega | assumption)
          · by_cases c2 : 8 < n
            · refine i_iload_n rfl rfl ?_
              refine i_iconst (n := 1) rfl (by unfold iR; omega) ?_
              refine i_icmp_lt_f rfl (by first | omega | assumption) ?_
              refine i_iload_n rfl rfl ?_
              refine i_bipush (n := 8) rfl (by unfold iR; omega) (by decide) ?_
              refine i_icmp_gt_t rfl (by first | omega | assumption) ?_
              refine i_iconst (n := 0) rfl (by unfold iR; omega) ?_
              -- at 23
              exact i_zreturn rfl rfl (by first | omega | assumption)
            · refine i_iload_n rfl rfl ?_
              refine i_iconst (n := 1) rfl (by unfold iR; omega) ?_
              refine i_icmp_lt_f rfl (by first | omega | assumption) ?_
              refine i_iload_n rfl rfl ?_
              refine i_bipush (n := 8) rfl (by unfold iR; omega) (by decide) ?_
              refine i_icmp_gt_f rfl (by first | omega | assumption) ?_
              refine i_aload_n rfl rfl ?_
              refine i_getf rfl rfl rfl rfl (by decide) ?_
              refine i_iload_n rfl rfl ?_
              refine i_iadd rfl (by unfold iR; omega) ?_
              refine i_bipush (n := 24) rfl (by unfold iR; omega) (by decide) ?_
              refine i_icmp_le_f rfl (by first | omega | assumption) ?_
              refine i_iconst (n := 0) rfl (by unfold iR; omega) ?_
              -- at 23
              exact i_zreturn rfl rfl (by first | omega | assumption)
        refine i_aload_n rfl rfl ?_
        refine i_getr rfl rfl rfl rfl (by decide) rfl ?_
        -- at 4
        refine i_call (T := (34, zp_34)) rfl rfl (c_isStopped (Or.inl a1)) rfl rfl rfl rfl rfl rfl rfl ?_
        try dsimp only
        show irun none zp_1 7 _ [iI (M 1 4)] _ _ 0 0 _
        refine i_if_ne_f rfl (by first | omega | assumption) ?_
        refine i_aload_n rfl rfl ?_
        refine i_getr rfl rfl rfl rfl (by decide) rfl ?_
        refine i_iload_n rfl rfl ?_
        refine i_lload_n rfl rfl ?_
        -- at 16
        refine i_call (T := (71, zp_71)) rfl rfl (hap) rfl rfl rfl rfl rfl rfl rfl ?_
        try dsimp only
        refine i_if_eq_t rfl (by first | omega | assumption) ?_
        refine i_iconst (n := 0) rfl (by unfold iR; omega) ?_
        -- at 27
        exact i_zreturn rfl rfl (by first | omega | assumption)
      · by_cases c1 : n < 1
        · refine i_aload_n rfl rfl ?_
          refine i_getf rfl rfl rfl rfl (by decide) ?_
          refine i_if_ne_f rfl (by first | omega | assumption) ?_
          refine i_iload_n rfl rfl ?_
          refine i_iconst (n := 1) rfl (by unfold iR; omega) ?_
          refine i_icmp_lt_t rfl (by first | omega | assumption) ?_
          refine i_iconst (n := 0) rfl (by unfold iR; omega) ?_
          -- at 30
          exact i_zreturn rfl rfl (by first | omega | assumption)
        · by_cases c2 : 8 < n
          · refine i_aload_n rfl rfl ?_
            refine i_getf rfl rfl rfl rfl (by decide) ?_
            refine i_if_ne_f rfl (by first | omega | assumption) ?_
            refine i_iload_n rfl rfl ?_
            refine i_iconst (n := 1) rfl (by unfold iR; omega) ?_
            refine i_icmp_lt_f rfl (by first | omega | assumption) ?_
            refine i_iload_n rfl rfl ?_
            refine i_bipush (n := 8) rfl (by unfold iR; omega) (by decide) ?_
            refine i_icmp_gt_t rfl (by first | omega | assumption) ?_
            refine i_iconst (n := 0) rfl (by unfold iR; omega) ?_
            -- at 30
            exact i_zreturn rfl rfl (by first | omega | assumption)
          · refine i_aload_n rfl rfl ?_
            refine i_getf rfl rfl rfl rfl (by decide) ?_
            refine i_if_ne_f rfl (by first | omega | assumption) ?_
            refine i_iload_n rfl rfl ?_
            refine i_iconst (n := 1) rfl (by unfold iR; omega) ?_
            refine i_icmp_lt_f rfl (by first | omega | assumption) ?_
            refine i_iload_n rfl rfl ?_
            refine i_bipush (n := 8) rfl (by unfold iR; omega) (by decide) ?_
            refine i_icmp_gt_f rfl (by first | omega | assumption) ?_
            refine i_aload_n rfl rfl ?_
            refine i_getf rfl rfl rfl rfl (by decide) ?_
            refine i_iload_n rfl rfl ?_
            refine i_iadd rfl (by unfold iR; omega) ?_
            refine i_bipush (n := 24) rfl (by unfold iR; omega) (by decide) ?_
            refine i_icmp_le_f rfl (by first | omega | assumption) ?_
            refine i_iconst (n := 0) rfl (by unfold iR; omega) ?_
            -- at 30
            exact i_zreturn rfl rfl (by first | omega | assumption)
  · refine ⟨0, b, M, M, ?_, ?_, Inv_w h (by omega)⟩
    · refine i_aload_n rfl rfl ?_
      refine i_getr rfl rfl rfl rfl (by decide) rfl ?_
      -- at 4
      refine i_call (T := (34, zp_34)) rfl rfl (c_isStopped (Or.inr a1)) rfl rfl rfl rfl rfl rfl rfl ?_
      try dsimp only
      show irun none zp_1 7 _ [iI (M 1 4)] _ _ 0 0 _
      refine i_if_ne_t rfl (by first | omega | assumption) ?_
      refine i_iconst (n := 0) rfl (by unfold iR; omega) ?_
      -- at 27
      exact i_zreturn rfl rfl (by first | omega | assumption)
    · refine i_aload_n rfl rfl ?_
      refine i_getf rfl rfl rfl rfl (by decide) ?_
      refine i_if_ne_t rfl (by first | omega | assumption) ?_
      refine i_iconst (n := 0) rfl (by unfold iR; omega) ?_
      -- at 30
      exact i_zreturn rfl rfl (by first | omega | assumption)

def fnd (f : Nat → Int) (name ver : Int) (n : Nat) : Nat → Int
  | 0 => -1
  | c + 1 => if f (7 * (n - (c + 1))) = name ∧ f (7 * (n - (c + 1)) + 1) = ver then ((n - (c + 1) : Nat) : Int) else fnd f name ver n c
theorem fnd_b (f : Nat → Int) (name ver : Int) (n : Nat) : ∀ c, c ≤ n → fnd f name ver n c = -1 ∨ (0 ≤ fnd f name ver n c ∧ fnd f name ver n c < n) := by
  intro c
  induction c with
  | zero => intro _; exact Or.inl rfl
  | succ c ih =>
    intro hc
    unfold fnd
    split
    · right; omega
    · exact ih (by omega)
theorem fnd_c {f g : Nat → Int} {name ver : Int} {n : Nat} : ∀ c, c ≤ n → (∀ k, k < n → f (7 * k) = g (7 * k) ∧ f (7 * k + 1) = g (7 * k + 1)) → fnd f name ver n c = fnd g name ver n c := by
  intro c
  induction c with
  | zero => intro _ _; rfl
  | succ c ih =>
    intro hc h
    unfold fnd
    rw [(h (n - (c + 1)) (by omega)).1, (h (n - (c + 1)) (by omega)).2, ih (by omega) h]
set_option maxRecDepth 100000 in
theorem c_word {b : Bool} {M : iM} {p k u : Nat} (hp : p = 36 ∨ p = 38) (hk : k < 10) (hu : u < 7) : irun none zp_55 0 (i_ent [iP p, iI (k : Int), iI (u : Int)] 3) [] (SH b) M 0 0 (some (M (p + 1) (7 * k + u)), SH b, M) := by
  rw [show 7 * k + u = ((k : Int) * 7 + (u : Int)).toNat by omega]
  rcases hp with rfl | rfl
  · refine i_aload_n rfl rfl ?_
    refine i_getr rfl rfl rfl rfl (by decide) rfl ?_
    refine i_iload_n rfl rfl ?_
    refine i_bipush (n := 7) rfl (by unfold iR; omega) (by decide) ?_
    refine i_imul rfl (by unfold iR; omega) ?_
    refine i_iload_n rfl rfl ?_
    refine i_iadd rfl (by unfold iR; omega) ?_
    refine i_iald rfl rfl (by first | omega | assumption) (by first | omega | assumption) (by decide) ?_
    -- at 11
    exact i_ireturn rfl rfl
  · refine i_aload_n rfl rfl ?_
    refine i_getr rfl rfl rfl rfl (by decide) rfl ?_
    refine i_iload_n rfl rfl ?_
    refine i_bipush (n := 7) rfl (by unfold iR; omega) (by decide) ?_
    refine i_imul rfl (by unfold iR; omega) ?_
    refine i_iload_n rfl rfl ?_
    refine i_iadd rfl (by unfold iR; omega) ?_
    refine i_iald rfl rfl (by first | omega | assumption) (by first | omega | assumption) (by decide) ?_
    -- at 11
    exact i_ireturn rfl rfl
set_option maxRecDepth 100000 in
theorem c_find {b : Bool} {M : iM} {p n : Nat} {name ver : Int} (hp : p = 36 ∨ p = 38) (hn : M p 1 = n) (hn10 : n ≤ 10) : irun none zp_57 0 (i_ent [iP p, iI name, iI ver] 4) [] (SH b) M 0 0 (some (fnd (M (p + 1)) name ver n n), SH b, M) := by
  have loop : ∀ (c k : Nat), k + c = n → irun none zp_57 2 [some (iP p), some (iI name), some (iI ver), some (iI (k : Int))] [] (SH b) M 0 0 (some (fnd (M (p + 1)) name ver n c), SH b, M) := by
    intro c
    induction c with
    | zero =>
      intro k hk
      obtain rfl : k = n := by omega
      rcases hp with rfl | rfl
      · refine i_iload_n rfl rfl ?_
        refine i_aload_n rfl rfl ?_
        refine i_getf rfl rfl rfl rfl (by decide) ?_
        refine i_icmp_ge_t rfl (by first | omega | assumption) ?_
        refine i_iconst (n := -1) rfl (by unfold iR; omega) ?_
        -- at 39
        exact i_ireturn rfl rfl
      · refine i_iload_n rfl rfl ?_
        refine i_aload_n rfl rfl ?_
        refine i_getf rfl rfl rfl rfl (by decide) ?_
        refine i_icmp_ge_t rfl (by first | omega | assumption) ?_
        refine i_iconst (n := -1) rfl (by unfold iR; omega) ?_
        -- at 39
        exact i_ireturn rfl rfl
    | succ c ih =>
      intro k hk
      have hnx := ih (k + 1) (by omega)
      unfold fnd
      rw [show n - (c + 1) = k by omega]
      have w0 := c_word (b := b) (M := M) (p := p) (k := k) (u := 0) hp (by omega) (by decide)
      have w1 := c_word (b := b) (M := M) (p := p) (k := k) (u := 1) hp (by omega) (by decide)
      by_cases c0 : M (p + 1) (7 * k) = name
      · by_cases c1 : M (p + 1) (7 * k + 1) = ver
        · rw [if_pos ⟨c0, c1⟩]
          rcases hp with rfl | rfl
          · refine i_iload_n rfl rfl ?_
            refine i_aload_n rfl rfl ?_
            refine i_getf rfl rfl rfl rfl (by decide) ?_
            refine i_icmp_ge_f rfl (by first | omega | assumption) ?_
            refine i_aload_n rfl rfl ?_
            refine i_iload_n rfl rfl ?_
            refine i_iconst (n := 0) rfl (by unfold iR; omega) ?_
            -- at 13
            refine i_call (T := (55, zp_55)) rfl rfl (w0) rfl rfl rfl rfl rfl rfl rfl ?_
            try dsimp only
            show irun none zp_57 16 _ [iI (M (36 + 1) (7 * k))] _ _ 0 0 _
            refine i_iload_n rfl rfl ?_
            refine i_icmp_ne_f rfl (by first | omega | assumption) ?_
            refine i_aload_n rfl rfl ?_
            refine i_iload_n rfl rfl ?_
            refine i_iconst (n := 1) rfl (by unfold iR; omega) ?_
            -- at 23
            refine i_call (T := (55, zp_55)) rfl rfl (w1) rfl rfl rfl rfl rfl rfl rfl ?_
            try dsimp only
            refine i_iload_n rfl rfl ?_
            refine i_icmp_ne_f rfl (by first | omega | assumption) ?_
            refine i_iload_n rfl rfl ?_
            -- at 31
            exact i_ireturn rfl rfl
          · refine i_iload_n rfl rfl ?_
            refine i_aload_n rfl rfl ?_
            refine i_getf rfl rfl rfl rfl (by decide) ?_
            refine i_icmp_ge_f rfl (by first | omega | assumption) ?_
            refine i_aload_n rfl rfl ?_
            refine i_iload_n rfl rfl ?_
            refine i_iconst (n := 0) rfl (by unfold iR; omega) ?_
            -- at 13
            refine i_call (T := (55, zp_55)) rfl rfl (w0) rfl rfl rfl rfl rfl rfl rfl ?_
            try dsimp only
            show irun none zp_57 16 _ [iI (M (38 + 1) (7 * k))] _ _ 0 0 _
            refine i_iload_n rfl rfl ?_
            refine i_icmp_ne_f rfl (by first | omega | assumption) ?_
            refine i_aload_n rfl rfl ?_
            refine i_iload_n rfl rfl ?_
            refine i_iconst (n := 1) rfl (by unfold iR; omega) ?_
            -- at 23
            refine i_call (T := (55, zp_55)) rfl rfl (w1) rfl rfl rfl rfl rfl rfl rfl ?_
            try dsimp only
            refine i_iload_n rfl rfl ?_
            refine i_icmp_ne_f rfl (by first | omega | assumption) ?_
            refine i_iload_n rfl rfl ?_
            -- at 31
            exact i_ireturn rfl rfl
        · rw [if_neg (fun q => c1 q.2)]
          rcases hp with rfl | rfl
          · refine i_iload_n rfl rfl ?_
            refine i_aload_n rfl rfl ?_
            refine i_getf rfl rfl rfl rfl (by decide) ?_
            refine i_icmp_ge_f rfl (by first | omega | assumption) ?_
            refine i_aload_n rfl rfl ?_
            refine i_iload_n rfl rfl ?_
            refine i_iconst (n := 0) rfl (by unfold iR; omega) ?_
            -- at 13
            refine i_call (T := (55, zp_55)) rfl rfl (w0) rfl rfl rfl rfl rfl rfl rfl ?_
            try dsimp only
            show irun none zp_57 16 _ [iI (M (36 + 1) (7 * k))] _ _ 0 0 _
            refine i_iload_n rfl rfl ?_
            refine i_icmp_ne_f rfl (by first | omega | assumption) ?_
            refine i_aload_n rfl rfl ?_
            refine i_iload_n rfl rfl ?_
            refine i_iconst (n := 1) rfl (by unfold iR; omega) ?_
            -- at 23
            refine i_call (T := (55, zp_55)) rfl rfl (w1) rfl rfl rfl rfl rfl rfl rfl ?_
            try dsimp only
            refine i_iload_n rfl rfl ?_
            refine i_icmp_ne_t rfl (by first | omega | assumption) ?_
            refine i_iinc rfl rfl (by unfold iR; omega) (Nat.le_of_ble_eq_true rfl) rfl ?_
            refine i_goto rfl ?_
            -- at 2
            exact hnx
          · refine i_iload_n rfl rfl ?_
            refine i_aload_n rfl rfl ?_
            refine i_getf rfl rfl rfl rfl (by decide) ?_
            refine i_icmp_ge_f rfl (by first | omega | assumption) ?_
            refine i_aload_n rfl rfl ?_
            refine i_iload_n rfl rfl ?_
            refine i_iconst (n := 0) rfl (by unfold iR; omega) ?_
            -- at 13
            refine i_call (T := (55, zp_55)) rfl rfl (w0) rfl rfl rfl rfl rfl rfl rfl ?_
            try dsimp only
            show irun none zp_57 16 _ [iI (M (38 + 1) (7 * k))] _ _ 0 0 _
            refine i_iload_n rfl rfl ?_
            refine i_icmp_ne_f rfl (by first | omega | assumption) ?_
            refine i_aload_n rfl rfl ?_
            refine i_iload_n rfl rfl ?_
            refine i_iconst (n := 1) rfl (by unfold iR; omega) ?_
            -- at 23
            refine i_call (T := (55, zp_55)) rfl rfl (w1) rfl rfl rfl rfl rfl rfl rfl ?_
            try dsimp only
            refine i_iload_n rfl rfl ?_
            refine i_icmp_ne_t rfl (by first | omega | assumption) ?_
            refine i_iinc rfl rfl (by unfold iR; omega) (Nat.le_of_ble_eq_true rfl) rfl ?_
            refine i_goto rfl ?_
            -- at 2
            exact hnx
      · rw [if_neg (fun q => c0 q.1)]
        rcases hp with rfl | rfl
        · refine i_iload_n rfl rfl ?_
          refine i_aload_n rfl rfl ?_
          refine i_getf rfl rfl rfl rfl (by decide) ?_
          refine i_icmp_ge_f rfl (by first | omega | assumption) ?_
          refine i_aload_n rfl rfl ?_
          refine i_iload_n rfl rfl ?_
          refine i_iconst (n := 0) rfl (by unfold iR; omega) ?_
          -- at 13
          refine i_call (T := (55, zp_55)) rfl rfl (w0) rfl rfl rfl rfl rfl rfl rfl ?_
          try dsimp only
          show irun none zp_57 16 _ [iI (M (36 + 1) (7 * k))] _ _ 0 0 _
          refine i_iload_n rfl rfl ?_
          refine i_icmp_ne_t rfl (by first | omega | assumption) ?_
          refine i_iinc rfl rfl (by unfold iR; omega) (Nat.le_of_ble_eq_true rfl) rfl ?_
          refine i_goto rfl ?_
          -- at 2
          exact hnx
        · refine i_iload_n rfl rfl ?_
          refine i_aload_n rfl rfl ?_
          refine i_getf rfl rfl rfl rfl (by decide) ?_
          refine i_icmp_ge_f rfl (by first | omega | assumption) ?_
          refine i_aload_n rfl rfl ?_
          refine i_iload_n rfl rfl ?_
          refine i_iconst (n := 0) rfl (by unfold iR; omega) ?_
          -- at 13
          refine i_call (T := (55, zp_55)) rfl rfl (w0) rfl rfl rfl rfl rfl rfl rfl ?_
          try dsimp only
          show irun none zp_57 16 _ [iI (M (38 + 1) (7 * k))] _ _ 0 0 _
          refine i_iload_n rfl rfl ?_
          refine i_icmp_ne_t rfl (by first | omega | assumption) ?_
          refine i_iinc rfl rfl (by unfold iR; omega) (Nat.le_of_ble_eq_true rfl) rfl ?_
          refine i_goto rfl ?_
          -- at 2
          exact hnx
  refine i_iconst (n := 0) rfl (by unfold iR; omega) ?_
  refine i_istore_n rfl (Nat.le_of_ble_eq_true rfl) rfl ?_
  -- at 2
  exact loop n 0 (by omega)
set_option maxRecDepth 100000 in
theorem d_find {b : Bool} {M : iM} {n : Nat} {name ver : Int} (hn : M 42 0 = n) (hn10 : n ≤ 10) : irun none zp_146 0 (i_ent [iP 40, iI name, iI ver] 4) [] (SH b) M 0 0 (some (fnd (fun k => M 42 (1 + k)) name ver n n), SH b, M) := by
  have loop : ∀ (c k : Nat), k + c = n → irun none zp_146 2 [some (iP 40), some (iI name), some (iI ver), some (iI (k : Int))] [] (SH b) M 0 0 (some (fnd (fun k => M 42 (1 + k)) name ver n c), SH b, M) := by
    intro c
    induction c with
    | zero =>
      intro k hk
      obtain rfl : k = n := by omega
      refine i_iload_n rfl rfl ?_
      refine i_aload_n rfl rfl ?_
      refine i_getr rfl rfl rfl rfl (by decide) rfl ?_
      refine i_iconst (n := 0) rfl (by unfold iR; omega) ?_
      refine i_iald rfl rfl (by first | omega | assumption) (by first | omega | assumption) (by decide) ?_
      -- at 9
      show irun none zp_146 9 _ [iI (M 42 0), iI (k : Int)] _ _ 0 0 _
      refine i_icmp_ge_t rfl (by first | omega | assumption) ?_
      refine i_iconst (n := -1) rfl (by unfold iR; omega) ?_
      -- at 51
      exact i_ireturn rfl rfl
    | succ c ih =>
      intro k hk
      have hnx := ih (k + 1) (by omega)
      unfold fnd
      rw [show n - (c + 1) = k by omega]
      have e1 : (1 + 7 * (k : Int)).toNat = 1 + 7 * k := by omega
      have e2 : (2 + 7 * (k : Int)).toNat = 1 + (7 * k + 1) := by omega
      by_cases c0 : M 42 (1 + 7 * k) = name
      · by_cases c1 : M 42 (1 + (7 * k + 1)) = ver
        · rw [if_pos ⟨c0, c1⟩]
          rw [← e1] at c0
          rw [← e2] at c1
          refine i_iload_n rfl rfl ?_
          refine i_aload_n rfl rfl ?_
          refine i_getr rfl rfl rfl rfl (by decide) rfl ?_
          refine i_iconst (n := 0) rfl (by unfold iR; omega) ?_
          refine i_iald rfl rfl (by first | omega | assumption) (by first | omega | assumption) (by decide) ?_
          -- at 9
          show irun none zp_146 9 _ [iI (M 42 0), iI (k : Int)] _ _ 0 0 _
          refine i_icmp_ge_f rfl (by first | omega | assumption) ?_
          refine i_aload_n rfl rfl ?_
          refine i_getr rfl rfl rfl rfl (by decide) rfl ?_
          refine i_iconst (n := 1) rfl (by unfold iR; omega) ?_
          refine i_bipush (n := 7) rfl (by unfold iR; omega) (by decide) ?_
          refine i_iload_n rfl rfl ?_
          refine i_imul rfl (by unfold iR; omega) ?_
          refine i_iadd rfl (by unfold iR; omega) ?_
          refine i_iald rfl rfl (by first | omega | assumption) (by first | omega | assumption) (by decide) ?_
          refine i_iload_n rfl rfl ?_
          refine i_icmp_ne_f rfl (by first | omega | assumption) ?_
          refine i_aload_n rfl rfl ?_
          refine i_getr rfl rfl rfl rfl (by decide) rfl ?_
          refine i_iconst (n := 2) rfl (by unfold iR; omega) ?_
          refine i_bipush (n := 7) rfl (by unfold iR; omega) (by decide) ?_
          refine i_iload_n rfl rfl ?_
          refine i_imul rfl (by unfold iR; omega) ?_
          refine i_iadd rfl (by unfold iR; omega) ?_
          refine i_iald rfl rfl (by first | omega | assumption) (by first | omega | assumption) (by decide) ?_
          refine i_iload_n rfl rfl ?_
          refine i_icmp_ne_f rfl (by first | omega | assumption) ?_
          refine i_iload_n rfl rfl ?_
          -- at 43
          exact i_ireturn rfl rfl
        · rw [if_neg (fun q => c1 q.2)]
          rw [← e1] at c0
          rw [← e2] at c1
          refine i_iload_n rfl rfl ?_
          refine i_aload_n rfl rfl ?_
          refine i_getr rfl rfl rfl rfl (by decide) rfl ?_
          refine i_iconst (n := 0) rfl (by unfold iR; omega) ?_
          refine i_iald rfl rfl (by first | omega | assumption) (by first | omega | assumption) (by decide) ?_
          -- at 9
          show irun none zp_146 9 _ [iI (M 42 0), iI (k : Int)] _ _ 0 0 _
          refine i_icmp_ge_f rfl (by first | omega | assumption) ?_
          refine i_aload_n rfl rfl ?_
          refine i_getr rfl rfl rfl rfl (by decide) rfl ?_
          refine i_iconst (n := 1) rfl (by unfold iR; omega) ?_
          refine i_bipush (n := 7) rfl (by unfold iR; omega) (by decide) ?_
          refine i_iload_n rfl rfl ?_
          refine i_imul rfl (by unfold iR; omega) ?_
          refine i_iadd rfl (by unfold iR; omega) ?_
          refine i_iald rfl rfl (by first | omega | assumption) (by first | omega | assumption) (by decide) ?_
          refine i_iload_n rfl rfl ?_
          refine i_icmp_ne_f rfl (by first | omega | assumption) ?_
          refine i_aload_n rfl rfl ?_
          refine i_getr rfl rfl rfl rfl (by decide) rfl ?_
          refine i_iconst (n := 2) rfl (by unfold iR; omega) ?_
          refine i_bipush (n := 7) rfl (by unfold iR; omega) (by decide) ?_
          refine i_iload_n rfl rfl ?_
          refine i_imul rfl (by unfold iR; omega) ?_
          refine i_iadd rfl (by unfold iR; omega) ?_
          refine i_iald rfl rfl (by first | omega | assumption) (by first | omega | assumption) (by decide) ?_
          refine i_iload_n rfl rfl ?_
          refine i_icmp_ne_t rfl (by first | omega | assumption) ?_
          refine i_iinc rfl rfl (by unfold iR; omega) (Nat.le_of_ble_eq_true rfl) rfl ?_
          refine i_goto rfl ?_
          -- at 2
          exact hnx
      · rw [if_neg (fun q => c0 q.1)]
        rw [← e1] at c0
        refine i_iload_n rfl rfl ?_
        refine i_aload_n rfl rfl ?_
        refine i_getr rfl rfl rfl rfl (by decide) rfl ?_
        refine i_iconst (n := 0) rfl (by unfold iR; omega) ?_
        refine i_iald rfl rfl (by first | omega | assumption) (by first | omega | assumption) (by decide) ?_
        -- at 9
        show irun none zp_146 9 _ [iI (M 42 0), iI (k : Int)] _ _ 0 0 _
        refine i_icmp_ge_f rfl (by first | omega | assumption) ?_
        refine i_aload_n rfl rfl ?_
        refine i_getr rfl rfl rfl rfl (by decide) rfl ?_
        refine i_iconst (n := 1) rfl (by unfold iR; omega) ?_
        refine i_bipush (n := 7) rfl (by unfold iR; omega) (by decide) ?_
        refine i_iload_n rfl rfl ?_
        refine i_imul rfl (by unfold iR; omega) ?_
        refine i_iadd rfl (by unfold iR; omega) ?_
        refine i_iald rfl rfl (by first | omega | assumption) (by first | omega | assumption) (by decide) ?_
        refine i_iload_n rfl rfl ?_
        refine i_icmp_ne_t rfl (by first | omega | assumption) ?_
        refine i_iinc rfl rfl (by unfold iR; omega) (Nat.le_of_ble_eq_true rfl) rfl ?_
        refine i_goto rfl ?_
        -- at 2
        exact hnx
  refine i_iconst (n := 0) rfl (by unfold iR; omega) ?_
  refine i_istore_n rfl (Nat.le_of_ble_eq_true rfl) rfl ?_
  -- at 2
  exact loop n 0 (by omega)
theorem sm_set {f : Nat → Int} {k : Nat} {v : Int} : ∀ {n : Nat}, sm (va_up f k v) n = sm f n + (if k < n then v - f k else 0) := by
  intro n
  induction n with
  | zero => simp [sm]
  | succ n ih =>
    show sm (va_up f k v) n + va_up f k v n = sm f n + f n + _
    rw [ih]
    by_cases h : n = k
    · subst h
      rw [up_s, if_neg (by omega), if_pos (by omega)]
      omega
    · rw [up_n h]
      by_cases h2 : k < n
      · rw [if_pos h2, if_pos (by omega)]
        omega
      · rw [if_neg h2, if_neg (by omega)]
        omega
theorem pI_or (b : Bool) : pI b = 36 ∨ pI b = 38 := by cases b <;> simp [pI]
set_option maxRecDepth 100000 in
theorem o_remove {w : Int} {b : Bool} {M : iM} {name ver : Int} (h : Inv w b M) : Op w b M zp_3 zp_147 [iI name, iI ver] := by
  have hi := h
  obtain ⟨h1, ⟨a1, a2, a3⟩, ⟨⟨i1, i2⟩, i3, i4, i5⟩, h4, h5, h6, ⟨⟨e1, e2⟩, e3⟩, h8⟩ := hi
  obtain ⟨n, hn⟩ := Int.eq_ofNat_of_zero_le i1
  have hn : M (pI b) 1 = (n : Int) := hn
  have hfd := c_find (b := b) (M := M) (name := name) (ver := ver) (pI_or b) hn (by omega)
  have hfm := d_find (b := b) (M := M) (name := name) (ver := ver) (i3.trans hn) (by omega)
  have hfe : fnd (fun k => M 42 (1 + k)) name ver n n = fnd (M (pI b + 1)) name ver n n := fnd_c n (Nat.le_refl _) (fun k hk => ⟨i4 _ (by omega), i4 _ (by omega)⟩)
  have hfb := fnd_b (M (pI b + 1)) name ver n n (Nat.le_refl _)
  rw [hfe] at hfm
  generalize hF : fnd (M (pI b + 1)) name ver n n = F at *
  have hs := sm_b (f := M 10) (B := 1) (n := 10) (fun k hk => by have := (e3 k hk).2.1; omega)
  have go : ∀ (r : Int) (M1 : iM), irun none zp_73 0 (i_ent [iP 5, iI F] 2) [] (SH b) M 0 0 (some r, SH b, M1) → M 1 4 = 0 → (r = 0 ∨ r = 1) → irun none zp_3 0 (i_ent [iP 0, iI name, iI ver] 3) [] (SH b) M 0 0 (some r, SH b, M1) := by
    intro r M1 hm hz hr
    cases b
    · refine i_aload_n rfl rfl ?_
      refine i_getr rfl rfl rfl rfl (by decide) rfl ?_
      -- at 4
      refine i_call (T := (34, zp_34)) rfl rfl (c_isStopped (Or.inl hz)) rfl rfl rfl rfl rfl rfl rfl ?_
      try dsimp only
      show irun none zp_3 7 _ [iI (M 1 4)] _ _ 0 0 _
      refine i_if_ne_f rfl (by first | omega | assumption) ?_
      refine i_aload_n rfl rfl ?_
      refine i_getr rfl rfl rfl rfl (by decide) rfl ?_
      refine i_aload_n rfl rfl ?_
      refine i_getr rfl rfl rfl rfl (by decide) rfl ?_
      refine i_iload_n rfl rfl ?_
      refine i_iload_n rfl rfl ?_
      -- at 20
      refine i_call (T := (57, zp_57)) rfl rfl (hfd) rfl rfl rfl rfl rfl rfl rfl ?_
      try dsimp only
      refine i_call (T := (73, zp_73)) rfl rfl (hm) rfl rfl rfl rfl rfl rfl rfl ?_
      try dsimp only
      rcases hr with rfl | rfl
      · refine i_if_eq_t rfl (by first | omega | assumption) ?_
        refine i_iconst (n := 0) rfl (by unfold iR; omega) ?_
        -- at 34
        exact i_zreturn rfl rfl (by first | omega | assumption)
      · refine i_if_eq_f rfl (by first | omega | assumption) ?_
        refine i_iconst (n := 1) rfl (by unfold iR; omega) ?_
        refine i_goto rfl ?_
        -- at 34
        exact i_zreturn rfl rfl (by first | omega | assumption)
    · refine i_aload_n rfl rfl ?_
      refine i_getr rfl rfl rfl rfl (by decide) rfl ?_
      -- at 4
      refine i_call (T := (34, zp_34)) rfl rfl (c_isStopped (Or.inl hz)) rfl rfl rfl rfl rfl rfl rfl ?_
      try dsimp only
      show irun none zp_3 7 _ [iI (M 1 4)] _ _ 0 0 _
      refine i_if_ne_f rfl (by first | omega | assumption) ?_
      refine i_aload_n rfl rfl ?_
      refine i_getr rfl rfl rfl rfl (by decide) rfl ?_
      refine i_aload_n rfl rfl ?_
      refine i_getr rfl rfl rfl rfl (by decide) rfl ?_
      refine i_iload_n rfl rfl ?_
      refine i_iload_n rfl rfl ?_
      -- at 20
      refine i_call (T := (57, zp_57)) rfl rfl (hfd) rfl rfl rfl rfl rfl rfl rfl ?_
      try dsimp only
      refine i_call (T := (73, zp_73)) rfl rfl (hm) rfl rfl rfl rfl rfl rfl rfl ?_
      try dsimp only
      rcases hr with rfl | rfl
      · refine i_if_eq_t rfl (by first | omega | assumption) ?_
        refine i_iconst (n := 0) rfl (by unfold iR; omega) ?_
        -- at 34
        exact i_zreturn rfl rfl (by first | omega | assumption)
      · refine i_if_eq_f rfl (by first | omega | assumption) ?_
        refine i_iconst (n := 1) rfl (by unfold iR; omega) ?_
        refine i_goto rfl ?_
        -- at 34
        exact i_zreturn rfl rfl (by first | omega | assumption)
  rcases a1 with a1 | a1
  · rcases hfb with hfb | ⟨f0, f1⟩
    · subst hfb
      refine ⟨0, b, M, M, go 0 M ?_ a1 (Or.inl rfl), ?_, Inv_w h (by omega)⟩
      · refine i_iload_n rfl rfl ?_
        refine i_if_lt_t rfl (by first | omega | assumption) ?_
        refine i_iconst (n := 0) rfl (by unfold iR; omega) ?_
        -- at 20
        exact i_zreturn rfl rfl (by first | omega | assumption)
      · refine i_aload_n rfl rfl ?_
        refine i_getf rfl rfl rfl rfl (by decide) ?_
        refine i_if_eq_t rfl (by first | omega | assumption) ?_
        refine i_aload_n rfl rfl ?_
        refine i_iload_n rfl rfl ?_
        refine i_iload_n rfl rfl ?_
        -- at 14
        refine i_call (T := (146, zp_146)) rfl rfl (hfm) rfl rfl rfl rfl rfl rfl rfl ?_
        try dsimp only
        refine i_istore_n rfl (Nat.le_of_ble_eq_true rfl) rfl ?_
        refine i_iload_n rfl rfl ?_
        refine i_if_lt_t rfl (by first | omega | assumption) ?_
        refine i_iconst (n := 0) rfl (by unfold iR; omega) ?_
        -- at 32
        exact i_zreturn rfl rfl (by first | omega | assumption)
    · obtain ⟨k, rfl⟩ := Int.eq_ofNat_of_zero_le f0
      have hk10 : k < 10 := by omega
      obtain ⟨g1, g2, g3⟩ := e3 k hk10
      rcases g2 with g2 | g2
      · refine ⟨1, b, i_st (i_st M 10 k 1) 5 8 (M 5 8 + 1), i_st (i_st (i_st (i_st M 10 k 1) 5 8 (M 5 8 + 1)) 49 k 1) 40 15 (M 40 15 + 1), go 1 _ ?_ a1 (Or.inr rfl), ?_, ?_⟩
        · refine i_iload_n rfl rfl ?_
          refine i_if_lt_f rfl (by first | omega | assumption) ?_
          refine i_iload_n rfl rfl ?_
          refine i_bipush (n := 10) rfl (by unfold iR; omega) (by decide) ?_
          refine i_icmp_ge_f rfl (by first | omega | assumption) ?_
          refine i_aload_n rfl rfl ?_
          refine i_getr rfl rfl rfl rfl (by decide) rfl ?_
          refine i_iload_n rfl rfl ?_
          -- at 15
          refine i_bald rfl rfl (by omega) (by omega) ?_
          rw [show (k : Int).toNat = k by omega, g2]
          refine i_if_eq_t rfl (by first | omega | assumption) ?_
          refine i_aload_n rfl rfl ?_
          refine i_getr rfl rfl rfl rfl (by decide) rfl ?_
          refine i_iload_n rfl rfl ?_
          refine i_iconst (n := 1) rfl (by unfold iR; omega) ?_
          refine i_bast rfl rfl (by first | omega | assumption) (by first | omega | assumption) (by first | omega | assumption) ?_
          refine i_aload_n rfl rfl ?_
          first | refine i_dup rfl ?_ | refine i_dupr rfl ?_
          -- at 30
          rw [show (k : Int).toNat = k by omega]
          refine i_getf rfl rfl rfl rfl (by decide) ?_
          show irun none zp_73 33 _ [iI (M 5 8), iP 5] _ _ 0 0 _
          refine i_iconst (n := 1) rfl (by unfold iR; omega) ?_
          refine i_iadd rfl (by unfold iR; omega) ?_
          refine i_puti rfl rfl rfl rfl ?_
          refine i_iconst (n := 1) rfl (by unfold iR; omega) ?_
          -- at 39
          exact i_zreturn rfl rfl (by first | omega | assumption)
        · have a2 : (i_st (i_st M 10 k 1) 5 8 (M 5 8 + 1)) 40 1 = 0 := a2.trans a1
          have hfm2 := d_find (b := b) (M := i_st (i_st M 10 k 1) 5 8 (M 5 8 + 1)) (name := name) (ver := ver) (i3.trans hn) (by omega)
          have hfm2 : irun none zp_146 0 (i_ent [iP 40, iI name, iI ver] 4) [] (SH b) (i_st (i_st M 10 k 1) 5 8 (M 5 8 + 1)) 0 0 (some (k : Int), SH b, i_st (i_st M 10 k 1) 5 8 (M 5 8 + 1)) := by rw [← hfe]; exact hfm2
          have g1' : (i_st (i_st M 10 k 1) 5 8 (M 5 8 + 1)) 49 k = 0 := g1.trans g2
          refine i_aload_n rfl rfl ?_
          refine i_getf rfl rfl rfl rfl (by decide) ?_
          refine i_if_eq_t rfl (by first | omega | assumption) ?_
          refine i_aload_n rfl rfl ?_
          refine i_iload_n rfl rfl ?_
          refine i_iload_n rfl rfl ?_
          -- at 14
          refine i_call (T := (146, zp_146)) rfl rfl (hfm2) rfl rfl rfl rfl rfl rfl rfl ?_
          try dsimp only
          refine i_istore_n rfl (Nat.le_of_ble_eq_true rfl) rfl ?_
          refine i_iload_n rfl rfl ?_
          refine i_if_lt_f rfl (by first | omega | assumption) ?_
          refine i_aload_n rfl rfl ?_
          refine i_getr rfl rfl rfl rfl (by decide) rfl ?_
          refine i_iload_n rfl rfl ?_
          -- at 27
          refine i_bald rfl rfl (by omega) (by omega) ?_
          rw [show (k : Int).toNat = k by omega, g1']
          refine i_if_eq_t rfl (by first | omega | assumption) ?_
          refine i_aload_n rfl rfl ?_
          refine i_getr rfl rfl rfl rfl (by decide) rfl ?_
          refine i_iload_n rfl rfl ?_
          refine i_iconst (n := 1) rfl (by unfold iR; omega) ?_
          refine i_bast rfl rfl (by first | omega | assumption) (by first | omega | assumption) (by first | omega | assumption) ?_
          refine i_aload_n rfl rfl ?_
          first | refine i_dup rfl ?_ | refine i_dupr rfl ?_
          -- at 42
          rw [show (k : Int).toNat = k by omega]
          refine i_getf rfl rfl rfl rfl (by decide) ?_
          show irun none zp_147 45 _ [iI (M 40 15), iP 40] _ _ 0 0 _
          refine i_iconst (n := 1) rfl (by unfold iR; omega) ?_
          refine i_iadd rfl (by unfold iR; omega) ?_
          refine i_puti rfl rfl rfl rfl ?_
          refine i_iconst (n := 1) rfl (by unfold iR; omega) ?_
          -- at 51
          exact i_zreturn rfl rfl (by first | omega | assumption)
        · have key : ∀ p, ¬ p = 10 → ¬ p = 5 → ¬ p = 49 → ¬ p = 40 → M p 1 = n → I7 p (i_st (i_st (i_st (i_st M 10 k 1) 5 8 (M 5 8 + 1)) 49 k 1) 40 15 (M 40 15 + 1)) := by
            intro p p1 p2 p3 p4 hpn
            have ep : (i_st (i_st (i_st (i_st M 10 k 1) 5 8 (M 5 8 + 1)) 49 k 1) 40 15 (M 40 15 + 1)) p = M p := by
              unfold i_st
              rw [up_n p4, up_n p3, up_n p2, up_n p1]
            refine ⟨⟨?_, ?_⟩, fun j hj => ?_⟩
            · show M 40 15 + 1 = M 5 8 + 1
              rw [e1]
            · show M 5 8 + 1 = sm (va_up (M 10) k 1) 10
              rw [sm_set, if_pos hk10, e2, g2]
              omega
            · rw [ep]
              show va_up (M 49) k 1 j = va_up (M 10) k 1 j ∧ (va_up (M 10) k 1 j = 0 ∨ va_up (M 10) k 1 j = 1) ∧ (M p 1 ≤ j → va_up (M 10) k 1 j = 0)
              by_cases ej : j = k
              · subst ej
                rw [up_s, up_s]
                exact ⟨rfl, Or.inr rfl, fun q => by omega⟩
              · rw [up_n ej, up_n ej]
                have := e3 j hj
                exact ⟨this.1, this.2.1, fun q => this.2.2 (by omega)⟩
          refine ⟨h1, (Inv_w (w := w) (v := w + 300) h (by omega)).2.1, ?_, h4, h5, h6, ?_, h8⟩
          · have h3 := h.2.2.1
            cases b <;> exact h3
          · cases b
            · exact key 36 (by decide) (by decide) (by decide) (by decide) hn
            · exact key 38 (by decide) (by decide) (by decide) (by decide) hn
      · refine ⟨0, b, M, M, go 0 M ?_ a1 (Or.inl rfl), ?_, Inv_w h (by omega)⟩
        · refine i_iload_n rfl rfl ?_
          refine i_if_lt_f rfl (by first | omega | assumption) ?_
          refine i_iload_n rfl rfl ?_
          refine i_bipush (n := 10) rfl (by unfold iR; omega) (by decide) ?_
          refine i_icmp_ge_f rfl (by first | omega | assumption) ?_
          refine i_aload_n rfl rfl ?_
          refine i_getr rfl rfl rfl rfl (by decide) rfl ?_
          refine i_iload_n rfl rfl ?_
          -- at 15
          refine i_bald rfl rfl (by omega) (by omega) ?_
          rw [show (k : Int).toNat = k by omega, g2]
          refine i_if_eq_f rfl (by first | omega | assumption) ?_
          refine i_iconst (n := 0) rfl (by unfold iR; omega) ?_
          -- at 20
          exact i_zreturn rfl rfl (by first | omega | assumption)
        · rw [g2] at g1
          refine i_aload_n rfl rfl ?_
          refine i_getf rfl rfl rfl rfl (by decide) ?_
          refine i_if_eq_t rfl (by first | omega | assumption) ?_
          refine i_aload_n rfl rfl ?_
          refine i_iload_n rfl rfl ?_
          refine i_iload_n rfl rfl ?_
          -- at 14
          refine i_call (T := (146, zp_146)) rfl rfl (hfm) rfl rfl rfl rfl rfl rfl rfl ?_
          try dsimp only
          refine i_istore_n rfl (Nat.le_of_ble_eq_true rfl) rfl ?_
          refine i_iload_n rfl rfl ?_
          refine i_if_lt_f rfl (by first | omega | assumption) ?_
          refine i_aload_n rfl rfl ?_
          refine i_getr rfl rfl rfl rfl (by decide) rfl ?_
          refine i_iload_n rfl rfl ?_
          -- at 27
          refine i_bald rfl rfl (by omega) (by omega) ?_
          rw [show (k : Int).toNat = k by omega, g1]
          refine i_if_eq_f rfl (by first | omega | assumption) ?_
          refine i_iconst (n := 0) rfl (by unfold iR; omega) ?_
          -- at 32
          exact i_zreturn rfl rfl (by first | omega | assumption)
  · refine ⟨0, b, M, M, ?_, ?_, Inv_w h (by omega)⟩
    · refine i_aload_n rfl rfl ?_
      refine i_getr rfl rfl rfl rfl (by decide) rfl ?_
      -- at 4
      refine i_call (T := (34, zp_34)) rfl rfl (c_isStopped (Or.inr a1)) rfl rfl rfl rfl rfl rfl rfl ?_
      try dsimp only
      show irun none zp_3 7 _ [iI (M 1 4)] _ _ 0 0 _
      refine i_if_ne_t rfl (by first | omega | assumption) ?_
      refine i_iconst (n := 0) rfl (by unfold iR; omega) ?_
      -- at 34
      exact i_zreturn rfl rfl (by first | omega | assumption)
    · refine i_aload_n rfl rfl ?_
      refine i_getf rfl rfl rfl rfl (by decide) ?_
      refine i_if_eq_f rfl (by first | omega | assumption) ?_
      refine i_iconst (n := -1) rfl (by unfold iR; omega) ?_
      refine i_goto rfl ?_
      refine i_istore_n rfl (Nat.le_of_ble_eq_true rfl) rfl ?_
      refine i_iload_n rfl rfl ?_
      refine i_if_lt_t rfl (by first | omega | assumption) ?_
      refine i_iconst (n := 0) rfl (by unfold iR; omega) ?_
      -- at 32
      exact i_zreturn rfl rfl (by first | omega | assumption)
