def fw (u : Nat) : Nat := match u with
  | 0 => 0
  | 1 => 1
  | 2 => 5
  | 3 => 6
  | 4 => 2
  | _ => 3
set_option maxRecDepth 100000 in
theorem o_file {w : Int} {b : Bool} {M : iM} {k u : Int} (h : Inv w b M) : Op w b M zp_9 zp_157 [iI k, iI u] := by
  have hi := h
  obtain ⟨-, ⟨a1, a2, -⟩, ⟨⟨i1, i2⟩, i3, i4, -⟩, -⟩ := hi
  obtain ⟨n, hn⟩ := Int.eq_ofNat_of_zero_le i1
  have hn : M (pI b) 1 = (n : Int) := hn
  have hm : M 42 0 = (n : Int) := i3.trans hn
  rcases a1 with a1 | a1
  · by_cases hk : 0 ≤ k ∧ k < n
    · obtain ⟨k, rfl⟩ := Int.eq_ofNat_of_zero_le hk.1
      by_cases hu : 0 ≤ u ∧ u ≤ 5
      · obtain ⟨u, rfl⟩ := Int.eq_ofNat_of_zero_le hu.1
        refine ⟨M (pI b + 1) (7 * k + fw u), b, M, M, ?_, ?_, Inv_w h (by omega)⟩
        · have hw := fun (v : Nat) (hv : v < 7) => c_word (b := b) (M := M) (p := pI b) (k := k) (u := v) (pI_or b) (by omega) hv
          refine i_aload_n rfl rfl ?_
          refine i_getr rfl rfl rfl rfl (by decide) rfl ?_
          -- at 4
          refine i_call (T := (34, zp_34)) rfl rfl (c_isStopped (Or.inl a1)) rfl rfl rfl rfl rfl rfl rfl ?_
          try dsimp only
          show irun none zp_9 7 _ [iI (M 1 4)] _ _ 0 0 _
          cases b
          · have hn : M (bif false then 38 else 36) 1 = (n : Int) := hn
            refine i_if_eq_t rfl (by first | omega | assumption) ?_
            refine i_iload_n rfl rfl ?_
            refine i_if_lt_f rfl (by first | omega | assumption) ?_
            refine i_iload_n rfl rfl ?_
            refine i_aload_n rfl rfl ?_
            refine i_getr rfl rfl rfl rfl (by decide) rfl ?_
            refine i_getf rfl rfl rfl rfl (by decide) ?_
            refine i_icmp_lt_t rfl (by first | omega | assumption) ?_
            refine i_iload_n rfl rfl ?_
            -- at 31
            rcases (show u = 0 ∨ u = 1 ∨ u = 2 ∨ u = 3 ∨ u = 4 ∨ u = 5 by omega) with rfl | rfl | rfl | rfl | rfl | rfl
            · refine i_tsw (t := 68) rfl rfl ?_
              refine i_aload_n rfl rfl ?_
              refine i_getr rfl rfl rfl rfl (by decide) rfl ?_
              refine i_iload_n rfl rfl ?_
              refine i_iconst (n := 0) rfl (by unfold iR; omega) ?_
              -- at 74
              refine i_call (T := (55, zp_55)) rfl rfl (hw 0 (by decide)) rfl rfl rfl rfl rfl rfl rfl ?_
              try dsimp only
              exact i_ireturn rfl rfl
            · refine i_tsw (t := 78) rfl rfl ?_
              refine i_aload_n rfl rfl ?_
              refine i_getr rfl rfl rfl rfl (by decide) rfl ?_
              refine i_iload_n rfl rfl ?_
              refine i_iconst (n := 1) rfl (by unfold iR; omega) ?_
              -- at 84
              refine i_call (T := (55, zp_55)) rfl rfl (hw 1 (by decide)) rfl rfl rfl rfl rfl rfl rfl ?_
              try dsimp only
              exact i_ireturn rfl rfl
            · refine i_tsw (t := 88) rfl rfl ?_
              refine i_aload_n rfl rfl ?_
              refine i_getr rfl rfl rfl rfl (by decide) rfl ?_
              refine i_iload_n rfl rfl ?_
              refine i_iconst (n := 5) rfl (by unfold iR; omega) ?_
              -- at 94
              refine i_call (T := (55, zp_55)) rfl rfl (hw 5 (by decide)) rfl rfl rfl rfl rfl rfl rfl ?_
              try dsimp only
              exact i_ireturn rfl rfl
            · refine i_tsw (t := 98) rfl rfl ?_
              refine i_aload_n rfl rfl ?_
              refine i_getr rfl rfl rfl rfl (by decide) rfl ?_
              refine i_iload_n rfl rfl ?_
              refine i_bipush (n := 6) rfl (by unfold iR; omega) (by decide) ?_
              -- at 105
              refine i_call (T := (55, zp_55)) rfl rfl (hw 6 (by decide)) rfl rfl rfl rfl rfl rfl rfl ?_
              try dsimp only
              exact i_ireturn rfl rfl
            · refine i_tsw (t := 109) rfl rfl ?_
              refine i_aload_n rfl rfl ?_
              refine i_getr rfl rfl rfl rfl (by decide) rfl ?_
              refine i_iload_n rfl rfl ?_
              refine i_iconst (n := 2) rfl (by unfold iR; omega) ?_
              -- at 115
              refine i_call (T := (55, zp_55)) rfl rfl (hw 2 (by decide)) rfl rfl rfl rfl rfl rfl rfl ?_
              try dsimp only
              exact i_ireturn rfl rfl
            · refine i_tsw (t := 119) rfl rfl ?_
              refine i_aload_n rfl rfl ?_
              refine i_getr rfl rfl rfl rfl (by decide) rfl ?_
              refine i_iload_n rfl rfl ?_
              refine i_iconst (n := 3) rfl (by unfold iR; omega) ?_
              -- at 125
              refine i_call (T := (55, zp_55)) rfl rfl (hw 3 (by decide)) rfl rfl rfl rfl rfl rfl rfl ?_
              try dsimp only
              exact i_ireturn rfl rfl
          · have hn : M (bif true then 38 else 36) 1 = (n : Int) := hn
            refine i_if_eq_t rfl (by first | omega | assumption) ?_
            refine i_iload_n rfl rfl ?_
            refine i_if_lt_f rfl (by first | omega | assumption) ?_
            refine i_iload_n rfl rfl ?_
            refine i_aload_n rfl rfl ?_
            refine i_getr rfl rfl rfl rfl (by decide) rfl ?_
            refine i_getf rfl rfl rfl rfl (by decide) ?_
            refine i_icmp_lt_t rfl (by first | omega | assumption) ?_
            refine i_iload_n rfl rfl ?_
            -- at 31
            rcases (show u = 0 ∨ u = 1 ∨ u = 2 ∨ u = 3 ∨ u = 4 ∨ u = 5 by omega) with rfl | rfl | rfl | rfl | rfl | rfl
            · refine i_tsw (t := 68) rfl rfl ?_
              refine i_aload_n rfl rfl ?_
              refine i_getr rfl rfl rfl rfl (by decide) rfl ?_
              refine i_iload_n rfl rfl ?_
              refine i_iconst (n := 0) rfl (by unfold iR; omega) ?_
              -- at 74
              refine i_call (T := (55, zp_55)) rfl rfl (hw 0 (by decide)) rfl rfl rfl rfl rfl rfl rfl ?_
              try dsimp only
              exact i_ireturn rfl rfl
            · refine i_tsw (t := 78) rfl rfl ?_
              refine i_aload_n rfl rfl ?_
              refine i_getr rfl rfl rfl rfl (by decide) rfl ?_
              refine i_iload_n rfl rfl ?_
              refine i_iconst (n := 1) rfl (by unfold iR; omega) ?_
              -- at 84
              refine i_call (T := (55, zp_55)) rfl rfl (hw 1 (by decide)) rfl rfl rfl rfl rfl rfl rfl ?_
              try dsimp only
              exact i_ireturn rfl rfl
            · refine i_tsw (t := 88) rfl rfl ?_
              refine i_aload_n rfl rfl ?_
              refine i_getr rfl rfl rfl rfl (by decide) rfl ?_
              refine i_iload_n rfl rfl ?_
              refine i_iconst (n := 5) rfl (by unfold iR; omega) ?_
              -- at 94
              refine i_call (T := (55, zp_55)) rfl rfl (hw 5 (by decide)) rfl rfl rfl rfl rfl rfl rfl ?_
              try dsimp only
              exact i_ireturn rfl rfl
            · refine i_tsw (t := 98) rfl rfl ?_
              refine i_aload_n rfl rfl ?_
              refine i_getr rfl rfl rfl rfl (by decide) rfl ?_
              refine i_iload_n rfl rfl ?_
              refine i_bipush (n := 6) rfl (by unfold iR; omega) (by decide) ?_
              -- at 105
              refine i_call (T := (55, zp_55)) rfl rfl (hw 6 (by decide)) rfl rfl rfl rfl rfl rfl rfl ?_
              try dsimp only
              exact i_ireturn rfl rfl
            · refine i_tsw (t := 109) rfl rfl ?_
              refine i_aload_n rfl rfl ?_
              refine i_getr rfl rfl rfl rfl (by decide) rfl ?_
              refine i_iload_n rfl rfl ?_
              refine i_iconst (n := 2) rfl (by unfold iR; omega) ?_
              -- at 115
              refine i_call (T := (55, zp_55)) rfl rfl (hw 2 (by decide)) rfl rfl rfl rfl rfl rfl rfl ?_
              try dsimp only
              exact i_ireturn rfl rfl
            · refine i_tsw (t := 119) rfl rfl ?_
              refine i_aload_n rfl rfl ?_
              refine i_getr rfl rfl rfl rfl (by decide) rfl ?_
              refine i_iload_n rfl rfl ?_
              refine i_iconst (n := 3) rfl (by unfold iR; omega) ?_
              -- at 125
              refine i_call (T := (55, zp_55)) rfl rfl (hw 3 (by decide)) rfl rfl rfl rfl rfl rfl rfl ?_
              try dsimp only
              exact i_ireturn rfl rfl
        · have e4 := fun (v : Nat) (hv : v < 7) => i4 (7 * k + v) (by omega)
          rw [← e4 (fw u) (by unfold fw; split <;> decide)]
          rcases (show u = 0 ∨ u = 1 ∨ u = 2 ∨ u = 3 ∨ u = 4 ∨ u = 5 by omega) with rfl | rfl | rfl | rfl | rfl | rfl
          · refine i_aload_n rfl rfl ?_
            refine i_getf rfl rfl rfl rfl (by decide) ?_
            refine i_if_eq_t rfl (by first | omega | assumption) ?_
            refine i_iload_n rfl rfl ?_
            refine i_if_lt_f rfl (by first | omega | assumption) ?_
            refine i_iload_n rfl rfl ?_
            refine i_aload_n rfl rfl ?_
            refine i_getr rfl rfl rfl rfl (by decide) rfl ?_
            refine i_iconst (n := 0) rfl (by unfold iR; omega) ?_
            refine i_iald rfl rfl (by first | omega | assumption) (by first | omega | assumption) (by decide) ?_
            -- at 21
            show irun none zp_157 21 _ [iI (M 42 0), iI (k : Int)] _ _ 0 0 _
            refine i_icmp_ge_f rfl (by first | omega | assumption) ?_
            refine i_iload_n rfl rfl ?_
            refine i_if_lt_f rfl (by first | omega | assumption) ?_
            refine i_iload_n rfl rfl ?_
            refine i_iconst (n := 5) rfl (by unfold iR; omega) ?_
            refine i_icmp_le_t rfl (by first | omega | assumption) ?_
            refine i_iconst (n := 1) rfl (by unfold iR; omega) ?_
            refine i_bipush (n := 7) rfl (by unfold iR; omega) (by decide) ?_
            refine i_iload_n rfl rfl ?_
            refine i_imul rfl (by unfold iR; omega) ?_
            refine i_iadd rfl (by unfold iR; omega) ?_
            refine i_istore_n rfl (Nat.le_of_ble_eq_true rfl) rfl ?_
            refine i_iload_n rfl rfl ?_
            refine i_iconst (n := 2) rfl (by unfold iR; omega) ?_
            refine i_icmp_ge_f rfl (by first | omega | assumption) ?_
            refine i_aload_n rfl rfl ?_
            refine i_getr rfl rfl rfl rfl (by decide) rfl ?_
            refine i_iload_n rfl rfl ?_
            refine i_iload_n rfl rfl ?_
            refine i_iadd rfl (by unfold iR; omega) ?_
            refine i_iald rfl rfl (by first | omega | assumption) (by first | omega | assumption) (by decide) ?_
            refine i_goto rfl ?_
            -- at 101
            rw [show (1 + 7 * (k : Int) + ((0 : Nat) : Int)).toNat = 1 + (7 * k + fw 0) by show _ = 1 + (7 * k + 0); omega]
            exact i_ireturn rfl rfl
          · refine i_aload_n rfl rfl ?_
            refine i_getf rfl rfl rfl rfl (by decide) ?_
            refine i_if_eq_t rfl (by first | omega | assumption) ?_
            refine i_iload_n rfl rfl ?_
            refine i_if_lt_f rfl (by first | omega | assumption) ?_
            refine i_iload_n rfl rfl ?_
            refine i_aload_n rfl rfl ?_
            refine i_getr rfl rfl rfl rfl (by decide) rfl ?_
            refine i_iconst (n := 0) rfl (by unfold iR; omega) ?_
            refine i_iald rfl rfl (by first | omega | assumption) (by first | omega | assumption) (by decide) ?_
            -- at 21
            show irun none zp_157 21 _ [iI (M 42 0), iI (k : Int)] _ _ 0 0 _
            refine i_icmp_ge_f rfl (by first | omega | assumption) ?_
            refine i_iload_n rfl rfl ?_
            refine i_if_lt_f rfl (by first | omega | assumption) ?_
            refine i_iload_n rfl rfl ?_
            refine i_iconst (n := 5) rfl (by unfold iR; omega) ?_
            refine i_icmp_le_t rfl (by first | omega | assumption) ?_
            refine i_iconst (n := 1) rfl (by unfold iR; omega) ?_
            refine i_bipush (n := 7) rfl (by unfold iR; omega) (by decide) ?_
            refine i_iload_n rfl rfl ?_
            refine i_imul rfl (by unfold iR; omega) ?_
            refine i_iadd rfl (by unfold iR; omega) ?_
            refine i_istore_n rfl (Nat.le_of_ble_eq_true rfl) rfl ?_
            refine i_iload_n rfl rfl ?_
            refine i_iconst (n := 2) rfl (by unfold iR; omega) ?_
            refine i_icmp_ge_f rfl (by first | omega | assumption) ?_
            refine i_aload_n rfl rfl ?_
            refine i_getr rfl rfl rfl rfl (by decide) rfl ?_
            refine i_iload_n rfl rfl ?_
            refine i_iload_n rfl rfl ?_
            refine i_iadd rfl (by unfold iR; omega) ?_
            refine i_iald rfl rfl (by first | omega | assumption) (by first | omega | assumption) (by decide) ?_
            refine i_goto rfl ?_
            -- at 101
            rw [show (1 + 7 * (k : Int) + ((1 : Nat) : Int)).toNat = 1 + (7 * k + fw 1) by show _ = 1 + (7 * k + 1); omega]
            exact i_ireturn rfl rfl
          · refine i_aload_n rfl rfl ?_
            refine i_getf rfl rfl rfl rfl (by decide) ?_
            refine i_if_eq_t rfl (by first | omega | assumption) ?_
            refine i_iload_n rfl rfl ?_
            refine i_if_lt_f rfl (by first | omega | assumption) ?_
            refine i_iload_n rfl rfl ?_
            refine i_aload_n rfl rfl ?_
            refine i_getr rfl rfl rfl rfl (by decide) rfl ?_
            refine i_iconst (n := 0) rfl (by unfold iR; omega) ?_
            refine i_iald rfl rfl (by first | omega | assumption) (by first | omega | assumption) (by decide) ?_
            -- at 21
            show irun none zp_157 21 _ [iI (M 42 0), iI (k : Int)] _ _ 0 0 _
            refine i_icmp_ge_f rfl (by first | omega | assumption) ?_
            refine i_iload_n rfl rfl ?_
            refine i_if_lt_f rfl (by first | omega | assumption) ?_
            refine i_iload_n rfl rfl ?_
            refine i_iconst (n := 5) rfl (by unfold iR; omega) ?_
            refine i_icmp_le_t rfl (by first | omega | assumption) ?_
            refine i_iconst (n := 1) rfl (by unfold iR; omega) ?_
            refine i_bipush (n := 7) rfl (by unfold iR; omega) (by decide) ?_
            refine i_iload_n rfl rfl ?_
            refine i_imul rfl (by unfold iR; omega) ?_
            refine i_iadd rfl (by unfold iR; omega) ?_
            refine i_istore_n rfl (Nat.le_of_ble_eq_true rfl) rfl ?_
            refine i_iload_n rfl rfl ?_
            refine i_iconst (n := 2) rfl (by unfold iR; omega) ?_
            refine i_icmp_ge_t rfl (by first | omega | assumption) ?_
            refine i_iload_n rfl rfl ?_
            refine i_iconst (n := 2) rfl (by unfold iR; omega) ?_
            refine i_icmp_ne_f rfl (by first | omega | assumption) ?_
            refine i_aload_n rfl rfl ?_
            refine i_getr rfl rfl rfl rfl (by decide) rfl ?_
            refine i_iload_n rfl rfl ?_
            refine i_iconst (n := 5) rfl (by unfold iR; omega) ?_
            refine i_iadd rfl (by unfold iR; omega) ?_
            refine i_iald rfl rfl (by first | omega | assumption) (by first | omega | assumption) (by decide) ?_
            refine i_goto rfl ?_
            -- at 101
            rw [show (1 + 7 * (k : Int) + 5).toNat = 1 + (7 * k + fw 2) by show _ = 1 + (7 * k + 5); omega]
            exact i_ireturn rfl rfl
          · refine i_aload_n rfl rfl ?_
            refine i_getf rfl rfl rfl rfl (by decide) ?_
            refine i_if_eq_t rfl (by first | omega | assumption) ?_
            refine i_iload_n rfl rfl ?_
            refine i_if_lt_f rfl (by first | omega | assumption) ?_
            refine i_iload_n rfl rfl ?_
            refine i_aload_n rfl rfl ?_
            refine i_getr rfl rfl rfl rfl (by decide) rfl ?_
            refine i_iconst (n := 0) rfl (by unfold iR; omega) ?_
            refine i_iald rfl rfl (by first | omega | assumption) (by first | omega | assumption) (by decide) ?_
            -- at 21
            show irun none zp_157 21 _ [iI (M 42 0), iI (k : Int)] _ _ 0 0 _
            refine i_icmp_ge_f rfl (by first | omega | assumption) ?_
            refine i_iload_n rfl rfl ?_
            refine i_if_lt_f rfl (by first | omega | assumption) ?_
            refine i_iload_n rfl rfl ?_
            refine i_iconst (n := 5) rfl (by unfold iR; omega) ?_
            refine i_icmp_le_t rfl (by first | omega | assumption) ?_
            refine i_iconst (n := 1) rfl (by unfold iR; omega) ?_
            refine i_bipush (n := 7) rfl (by unfold iR; omega) (by decide) ?_
            refine i_iload_n rfl rfl ?_
            refine i_imul rfl (by unfold iR; omega) ?_
            refine i_iadd rfl (by unfold iR; omega) ?_
            refine i_istore_n rfl (Nat.le_of_ble_eq_true rfl) rfl ?_
            refine i_iload_n rfl rfl ?_
            refine i_iconst (n := 2) rfl (by unfold iR; omega) ?_
            refine i_icmp_ge_t rfl (by first | omega | assumption) ?_
            refine i_iload_n rfl rfl ?_
            refine i_iconst (n := 2) rfl (by unfold iR; omega) ?_
            refine i_icmp_ne_t rfl (by first | omega | assumption) ?_
            refine i_iload_n rfl rfl ?_
            refine i_iconst (n := 3) rfl (by unfold iR; omega) ?_
            refine i_icmp_ne_f rfl (by first | omega | assumption) ?_
            refine i_aload_n rfl rfl ?_
            refine i_getr rfl rfl rfl rfl (by decide) rfl ?_
            refine i_iload_n rfl rfl ?_
            refine i_bipush (n := 6) rfl (by unfold iR; omega) (by decide) ?_
            refine i_iadd rfl (by unfold iR; omega) ?_
            refine i_iald rfl rfl (by first | omega | assumption) (by first | omega | assumption) (by decide) ?_
            refine i_goto rfl ?_
            -- at 101
            rw [show (1 + 7 * (k : Int) + 6).toNat = 1 + (7 * k + fw 3) by show _ = 1 + (7 * k + 6); omega]
            exact i_ireturn rfl rfl
          · refine i_aload_n rfl rfl ?_
            refine i_getf rfl rfl rfl rfl (by decide) ?_
            refine i_if_eq_t rfl (by first | omega | assumption) ?_
            refine i_iload_n rfl rfl ?_
            refine i_if_lt_f rfl (by first | omega | assumption) ?_
            refine i_iload_n rfl rfl ?_
            refine i_aload_n rfl rfl ?_
            refine i_getr rfl rfl rfl rfl (by decide) rfl ?_
            refine i_iconst (n := 0) rfl (by unfold iR; omega) ?_
            refine i_iald rfl rfl (by first | omega | assumption) (by first | omega | assumption) (by decide) ?_
            -- at 21
            show irun none zp_157 21 _ [iI (M 42 0), iI (k : Int)] _ _ 0 0 _
            refine i_icmp_ge_f rfl (by first | omega | assumption) ?_
            refine i_iload_n rfl rfl ?_
            refine i_if_lt_f rfl (by first | omega | assumption) ?_
            refine i_iload_n rfl rfl ?_
            refine i_iconst (n := 5) rfl (by unfold iR; omega) ?_
            refine i_icmp_le_t rfl (by first | omega | assumption) ?_
            refine i_iconst (n := 1) rfl (by unfold iR; omega) ?_
            refine i_bipush (n := 7) rfl (by unfold iR; omega) (by decide) ?_
            refine i_iload_n rfl rfl ?_
            refine i_imul rfl (by unfold iR; omega) ?_
            refine i_iadd rfl (by unfold iR; omega) ?_
            refine i_istore_n rfl (Nat.le_of_ble_eq_true rfl) rfl ?_
            refine i_iload_n rfl rfl ?_
            refine i_iconst (n := 2) rfl (by unfold iR; omega) ?_
            refine i_icmp_ge_t rfl (by first | omega | assumption) ?_
            refine i_iload_n rfl rfl ?_
            refine i_iconst (n := 2) rfl (by unfold iR; omega) ?_
            refine i_icmp_ne_t rfl (by first | omega | assumption) ?_
            refine i_iload_n rfl rfl ?_
            refine i_iconst (n := 3) rfl (by unfold iR; omega) ?_
            refine i_icmp_ne_t rfl (by first | omega | assumption) ?_
            refine i_aload_n rfl rfl ?_
            refine i_getr rfl rfl rfl rfl (by decide) rfl ?_
            refine i_iload_n rfl rfl ?_
            refine i_iload_n rfl rfl ?_
            refine i_iadd rfl (by unfold iR; omega) ?_
            refine i_iconst (n := 2) rfl (by unfold iR; omega) ?_
            refine i_isub rfl (by unfold iR; omega) ?_
            refine i_iald rfl rfl (by first | omega | assumption) (by first | omega | assumption) (by decide) ?_
            -- at 101
            rw [show (1 + 7 * (k : Int) + ((4 : Nat) : Int) - 2).toNat = 1 + (7 * k + fw 4) by show _ = 1 + (7 * k + 2); omega]
            exact i_ireturn rfl rfl
          · refine i_aload_n rfl rfl ?_
            refine i_getf rfl rfl rfl rfl (by decide) ?_
            refine i_if_eq_t rfl (by first | omega | assumption) ?_
            refine i_iload_n rfl rfl ?_
            refine i_if_lt_f rfl (by first | omega | assumption) ?_
            refine i_iload_n rfl rfl ?_
            refine i_aload_n rfl rfl ?_
            refine i_getr rfl rfl rfl rfl (by decide) rfl ?_
            refine i_iconst (n := 0) rfl (by unfold iR; omega) ?_
            refine i_iald rfl rfl (by first | omega | assumption) (by first | omega | assumption) (by decide) ?_
            -- at 21
            show irun none zp_157 21 _ [iI (M 42 0), iI (k : Int)] _ _ 0 0 _
            refine i_icmp_ge_f rfl (by first | omega | assumption) ?_
            refine i_iload_n rfl rfl ?_
            refine i_if_lt_f rfl (by first | omega | assumption) ?_
            refine i_iload_n rfl rfl ?_
            refine i_iconst (n := 5) rfl (by unfold iR; omega) ?_
            refine i_icmp_le_t rfl (by first | omega | assumption) ?_
            refine i_iconst (n := 1) rfl (by unfold iR; omega) ?_
            refine i_bipush (n := 7) rfl (by unfold iR; omega) (by decide) ?_
            refine i_iload_n rfl rfl ?_
            refine i_imul rfl (by unfold iR; omega) ?_
            refine i_iadd rfl (by unfold iR; omega) ?_
            refine i_istore_n rfl (Nat.le_of_ble_eq_true rfl) rfl ?_
            refine i_iload_n rfl rfl ?_
            refine i_iconst (n := 2) rfl (by unfold iR; omega) ?_
            refine i_icmp_ge_t rfl (by first | omega | assumption) ?_
            refine i_iload_n rfl rfl ?_
            refine i_iconst (n := 2) rfl (by unfold iR; omega) ?_
            refine i_icmp_ne_t rfl (by first | omega | assumption) ?_
            refine i_iload_n rfl rfl ?_
            refine i_iconst (n := 3) rfl (by unfold iR; omega) ?_
            refine i_icmp_ne_t rfl (by first | omega | assumption) ?_
            refine i_aload_n rfl rfl ?_
            refine i_getr rfl rfl rfl rfl (by decide) rfl ?_
            refine i_iload_n rfl rfl ?_
            refine i_iload_n rfl rfl ?_
            refine i_iadd rfl (by unfold iR; omega) ?_
            refine i_iconst (n := 2) rfl (by unfold iR; omega) ?_
            refine i_isub rfl (by unfold iR; omega) ?_
            refine i_iald rfl rfl (by first | omega | assumption) (by first | omega | assumption) (by decide) ?_
            -- at 101
            rw [show (1 + 7 * (k : Int) + ((5 : Nat) : Int) - 2).toNat = 1 + (7 * k + fw 5) by show _ = 1 + (7 * k + 3); omega]
            exact i_ireturn rfl rfl
      · refine ⟨-1, b, M, M, ?_, ?_, Inv_w h (by omega)⟩
        · refine i_aload_n rfl rfl ?_
          refine i_getr rfl rfl rfl rfl (by decide) rfl ?_
          -- at 4
          refine i_call (T := (34, zp_34)) rfl rfl (c_isStopped (Or.inl a1)) rfl rfl rfl rfl rfl rfl rfl ?_
          try dsimp only
          show irun none zp_9 7 _ [iI (M 1 4)] _ _ 0 0 _
          cases b
          · have hn : M (bif false then 38 else 36) 1 = (n : Int) := hn
            refine i_if_eq_t rfl (by first | omega | assumption) ?_
            refine i_iload_n rfl rfl ?_
            refine i_if_lt_f rfl (by first | omega | assumption) ?_
            refine i_iload_n rfl rfl ?_
            refine i_aload_n rfl rfl ?_
            refine i_getr rfl rfl rfl rfl (by decide) rfl ?_
            refine i_getf rfl rfl rfl rfl (by decide) ?_
            refine i_icmp_lt_t rfl (by first | omega | assumption) ?_
            refine i_iload_n rfl rfl ?_
            -- at 31
            refine i_tsw (t := 129) rfl (by rw [if_pos (by omega)]; rfl) ?_
            refine i_iconst (n := -1) rfl (by unfold iR; omega) ?_
            -- at 130
            exact i_ireturn rfl rfl
          · have hn : M (bif true then 38 else 36) 1 = (n : Int) := hn
            refine i_if_eq_t rfl (by first | omega | assumption) ?_
            refine i_iload_n rfl rfl ?_
            refine i_if_lt_f rfl (by first | omega | assumption) ?_
            refine i_iload_n rfl rfl ?_
            refine i_aload_n rfl rfl ?_
            refine i_getr rfl rfl rfl rfl (by decide) rfl ?_
            refine i_getf rfl rfl rfl rfl (by decide) ?_
            refine i_icmp_lt_t rfl (by first | omega | assumption) ?_
            refine i_iload_n rfl rfl ?_
            -- at 31
            refine i_tsw (t := 129) rfl (by rw [if_pos (by omega)]; rfl) ?_
            refine i_iconst (n := -1) rfl (by unfold iR; omega) ?_
            -- at 130
            exact i_ireturn rfl rfl
        · by_cases c : u < 0
          · refine i_aload_n rfl rfl ?_
            refine i_getf rfl rfl rfl rfl (by decide) ?_
            refine i_if_eq_t rfl (by first | omega | assumption) ?_
            refine i_iload_n rfl rfl ?_
            refine i_if_lt_f rfl (by first | omega | assumption) ?_
            refine i_iload_n rfl rfl ?_
            refine i_aload_n rfl rfl ?_
            refine i_getr rfl rfl rfl rfl (by decide) rfl ?_
            refine i_iconst (n := 0) rfl (by unfold iR; omega) ?_
            refine i_iald rfl rfl (by first | omega | assumption) (by first | omega | assumption) (by decide) ?_
            -- at 21
            show irun none zp_157 21 _ [iI (M 42 0), iI (k : Int)] _ _ 0 0 _
            refine i_icmp_ge_f rfl (by first | omega | assumption) ?_
            refine i_iload_n rfl rfl ?_
            refine i_if_lt_t rfl (by first | omega | assumption) ?_
            refine i_iconst (n := -1) rfl (by unfold iR; omega) ?_
            -- at 34
            exact i_ireturn rfl rfl
          · refine i_aload_n rfl rfl ?_
            refine i_getf rfl rfl rfl rfl (by decide) ?_
            refine i_if_eq_t rfl (by first | omega | assumption) ?_
            refine i_iload_n rfl rfl ?_
            refine i_if_lt_f rfl (by first | omega | assumption) ?_
            refine i_iload_n rfl rfl ?_
            refine i_aload_n rfl rfl ?_
            refine i_getr rfl rfl rfl rfl (by decide) rfl ?_
            refine i_iconst (n := 0) rfl (by unfold iR; omega) ?_
            refine i_iald rfl rfl (by first | omega | assumption) (by first | omega | assumption) (by decide) ?_
            -- at 21
            show irun none zp_157 21 _ [iI (M 42 0), iI (k : Int)] _ _ 0 0 _
            refine i_icmp_ge_f rfl (by first | omega | assumption) ?_
            refine i_iload_n rfl rfl ?_
            refine i_if_lt_f rfl (by first | omega | assumption) ?_
            refine i_iload_n rfl rfl ?_
            refine i_iconst (n := 5) rfl (by unfold iR; omega) ?_
            refine i_icmp_le_f rfl (by first | omega | assumption) ?_
            refine i_iconst (n := -1) rfl (by unfold iR; omega) ?_
            -- at 34
            exact i_ireturn rfl rfl
    · refine ⟨-1, b, M, M, ?_, ?_, Inv_w h (by omega)⟩
      · refine i_aload_n rfl rfl ?_
        refine i_getr rfl rfl rfl rfl (by decide) rfl ?_
        -- at 4
        refine i_call (T := (34, zp_34)) rfl rfl (c_isStopped (Or.inl a1)) rfl rfl rfl rfl rfl rfl rfl ?_
        try dsimp only
        show irun none zp_9 7 _ [iI (M 1 4)] _ _ 0 0 _
        cases b
        · have hn : M (bif false then 38 else 36) 1 = (n : Int) := hn
          by_cases c : k < 0
          · refine i_if_eq_t rfl (by first | omega | assumption) ?_
            refine i_iload_n rfl rfl ?_
            refine i_if_lt_t rfl (by first | omega | assumption) ?_
            refine i_iconst (n := -1) rfl (by unfold iR; omega) ?_
            -- at 29
            exact i_ireturn rfl rfl
          · refine i_if_eq_t rfl (by first | omega | assumption) ?_
            refine i_iload_n rfl rfl ?_
            refine i_if_lt_f rfl (by first | omega | assumption) ?_
            refine i_iload_n rfl rfl ?_
            refine i_aload_n rfl rfl ?_
            refine i_getr rfl rfl rfl rfl (by decide) rfl ?_
            refine i_getf rfl rfl rfl rfl (by decide) ?_
            refine i_icmp_lt_f rfl (by first | omega | assumption) ?_
            refine i_iconst (n := -1) rfl (by unfold iR; omega) ?_
            -- at 29
            exact i_ireturn rfl rfl
        · have hn : M (bif true then 38 else 36) 1 = (n : Int) := hn
          by_cases c : k < 0
          · refine i_if_eq_t rfl (by first | omega | assumption) ?_
            refine i_iload_n rfl rfl ?_
            refine i_if_lt_t rfl (by first | omega | assumption) ?_
            refine i_iconst (n := -1) rfl (by unfold iR; omega) ?_
            -- at 29
            exact i_ireturn rfl rfl
          · refine i_if_eq_t rfl (by first | omega | assumption) ?_
            refine i_iload_n rfl rfl ?_
            refine i_if_lt_f rfl (by first | omega | assumption) ?_
            refine i_iload_n rfl rfl ?_
            refine i_aload_n rfl rfl ?_
            refine i_getr rfl rfl rfl rfl (by decide) rfl ?_
            refine i_getf rfl rfl rfl rfl (by decide) ?_
            refine i_icmp_lt_f rfl (by first | omega | assumption) ?_
            refine i_iconst (n := -1) rfl (by unfold iR; omega) ?_
            -- at 29
            exact i_ireturn rfl rfl
      · by_cases c : k < 0
        · refine i_aload_n rfl rfl ?_
          refine i_getf rfl rfl rfl rfl (by decide) ?_
          refine i_if_eq_t rfl (by first | omega | assumption) ?_
          refine i_iload_n rfl rfl ?_
          refine i_if_lt_t rfl (by first | omega | assumption) ?_
          refine i_iconst (n := -1) rfl (by unfold iR; omega) ?_
          -- at 34
          exact i_ireturn rfl rfl
        · refine i_aload_n rfl rfl ?_
          refine i_getf rfl rfl rfl rfl (by decide) ?_
          refine i_if_eq_t rfl (by first | omega | assumption) ?_
          refine i_iload_n rfl rfl ?_
          refine i_if_lt_f rfl (by first | omega | assumption) ?_
          refine i_iload_n rfl rfl ?_
          refine i_aload_n rfl rfl ?_
          refine i_getr rfl rfl rfl rfl (by decide) rfl ?_
          refine i_iconst (n := 0) rfl (by unfold iR; omega) ?_
          refine i_iald rfl rfl (by first | omega | assumption) (by first | omega | assumption) (by decide) ?_
          -- at 21
          show irun none zp_157 21 _ [iI (M 42 0), iI k] _ _ 0 0 _
          refine i_icmp_ge_t rfl (by first | omega | assumption) ?_
          refine i_iconst (n := -1) rfl (by unfold iR; omega) ?_
          -- at 34
          exact i_ireturn rfl rfl
  · refine ⟨-9, b, M, M, ?_, ?_, Inv_w h (by omega)⟩
    · refine i_aload_n rfl rfl ?_
      refine i_getr rfl rfl rfl rfl (by decide) rfl ?_
      -- at 4
      refine i_call (T := (34, zp_34)) rfl rfl (c_isStopped (Or.inr a1)) rfl rfl rfl rfl rfl rfl rfl ?_
      try dsimp only
      show irun none zp_9 7 _ [iI (M 1 4)] _ _ 0 0 _
      refine i_if_eq_f rfl (by first | omega | assumption) ?_
      refine i_bipush (n := -9) rfl (by unfold iR; omega) (by decide) ?_
      -- at 12
      exact i_ireturn rfl rfl
    · refine i_aload_n rfl rfl ?_
      refine i_getf rfl rfl rfl rfl (by decide) ?_
      refine i_if_eq_f rfl (by first | omega | assumption) ?_
      refine i_bipush (n := -9) rfl (by unfold iR; omega) (by decide) ?_
      -- at 9
      exact i_ireturn rfl rfl
