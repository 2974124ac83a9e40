def G4 (M M' : iM) : Prop := ∀ k, k ≠ 20 → k ≠ 21 → k ≠ 26 → M' 40 k = M 40 k
theorem sA_0 (S : Nat → Int) : sA S 0 = S := by unfold sA; rw [if_neg (by decide)]
theorem sA_1 (S : Nat → Int) : sA S 1 = ds S := by unfold sA; rw [if_pos rfl]
set_option maxRecDepth 100000 in
theorem d_packed {b : Bool} {M : iM} {S : Nat → Int} {n c : Nat} {w : Int} (hn : M 40 14 = (n : Int)) (h96 : n ≤ 96) (hc : c < 4) (h3 : ¬ (c = 3 ∧ n = 0)) (hS : ∀ j, j < n → M 48 j = S j ∧ 0 ≤ S j ∧ S j < 256) (hw : w = 0 ∨ (w = 1 ∧ (∀ k, k < 125 → M 50 (3 + k) = 0) ∧ (eN S n c).length ≤ 1000)) : ∃ M', irun none zp_129 0 (i_ent [iP 40, iI (c : Int), iI w] 3) [] (SH b) M 0 0 (some (bc S n c : Int), SH b, M') ∧ Fr [40, 50, 53, 54, 55, 56, 57, 58, 59] M M' ∧ G4 M M' ∧ OW M' (eN S n c) ∧ M' 40 21 = w := by
  have hw01 : w = 0 ∨ w = 1 := by rcases hw with z | z; exact Or.inl z; exact Or.inr z.1
  have o1 : OW (i_st (i_st M 40 20 0) 40 21 w) [] := by
    refine ⟨rfl, ?_, B01_nil⟩
    rcases hw with z | ⟨z, z2, _⟩
    · exact Or.inl z
    · exact Or.inr ⟨z, fun k hk => by rw [pk_out (by simp)]; exact z2 k hk⟩
  have n1 : (i_st (i_st M 40 20 0) 40 21 w) 40 14 = (n : Int) := hn
  have s1 : ∀ j, j < n → (i_st (i_st M 40 20 0) 40 21 w) 48 j = S j ∧ 0 ≤ S j ∧ S j < 256 := hS
  have g1 : G4 M (i_st (i_st M 40 20 0) 40 21 w) := fun k k1 k2 k3 => by
    show va_up (va_up (M 40) 20 0) 21 w k = _
    rw [up_n k2, up_n k1]
  have w1 : (i_st (i_st M 40 20 0) 40 21 w) 40 21 = w := rfl
  have f1 : Fr [40, 50, 53, 54, 55, 56, 57, 58, 59] M (i_st (i_st M 40 20 0) 40 21 w) := Fr_st (Fr_st (Fr_r _ _) (by decide)) (by decide)
  have hlen := eN_len (c := c) (fun j hj => (hS j hj).2) h96 h3 hc
  have fin : ∀ M' : iM, OW M' (eN S n c) → irun none zp_129 47 [some (iP 40), some (iI (c : Int)), some (iI w)] [] (SH b) M' 0 0 (some (bc S n c : Int), SH b, M') := by
    intro M' ho
    refine i_aload_n rfl rfl ?_
    refine i_getf rfl rfl rfl rfl (by decide) ?_
    -- at 51
    rw [ho.1]
    refine i_bipush (n := 7) rfl (by unfold iR; omega) (by decide) ?_
    refine i_iadd rfl (by unfold iR; omega) ?_
    refine i_bipush (n := 8) rfl (by unfold iR; omega) (by decide) ?_
    refine i_idiv rfl (by first | omega | assumption) (by first | omega | assumption) ?_
    -- at 57
    rw [show ((eN S n c).length + 7 : Int) / 8 = (bc S n c : Int) by unfold bc; omega]
    exact i_ireturn rfl rfl
  rcases (show c = 0 ∨ c = 1 ∨ c = 2 ∨ c = 3 by omega) with e | e | e | e
  · subst e
    obtain ⟨M', k1, k2, k3, k4⟩ := d_stE (b := b) n1 h96 s1 o1
    refine ⟨M', ?_, Fr_t f1 k2 (by decide), fun k a1 a2 a3 => by rw [k3 k a1]; exact g1 k a1 a2 a3, k4, by rw [k3 21 (by decide)]; rfl⟩
    refine i_aload_n rfl rfl ?_
    refine i_iconst (n := 0) rfl (by unfold iR; omega) ?_
    refine i_puti rfl rfl rfl rfl ?_
    refine i_aload_n rfl rfl ?_
    refine i_iload_n rfl rfl ?_
    refine i_putz rfl rfl rfl rfl (by first | omega | assumption) ?_
    refine i_iload_n rfl rfl ?_
    refine i_if_ne_f rfl (by first | omega | assumption) ?_
    refine i_aload_n rfl rfl ?_
    -- at 15
    refine i_call (T := (121, zp_121)) rfl rfl (k1) rfl rfl rfl rfl rfl rfl rfl ?_
    try dsimp only
    refine i_goto rfl ?_
    -- at 47
    exact fin M' k4
  · subst e
    obtain ⟨M', k1, k2, k3, k4⟩ := d_mtE (b := b) (ap := 0) n1 h96 s1 (Or.inl rfl) o1
    rw [sA_0] at k4
    refine ⟨M', ?_, Fr_t f1 k2 (by decide), fun k a1 a2 a3 => by rw [k3 k a1]; exact g1 k a1 a2 a3, k4, by rw [k3 21 (by decide)]; rfl⟩
    refine i_aload_n rfl rfl ?_
    refine i_iconst (n := 0) rfl (by unfold iR; omega) ?_
    refine i_puti rfl rfl rfl rfl ?_
    refine i_aload_n rfl rfl ?_
    refine i_iload_n rfl rfl ?_
    refine i_putz rfl rfl rfl rfl (by first | omega | assumption) ?_
    refine i_iload_n rfl rfl ?_
    refine i_if_ne_t rfl (by first | omega | assumption) ?_
    refine i_iload_n rfl rfl ?_
    refine i_iconst (n := 3) rfl (by unfold iR; omega) ?_
    refine i_icmp_ge_f rfl (by first | omega | assumption) ?_
    refine i_aload_n rfl rfl ?_
    refine i_iload_n rfl rfl ?_
    refine i_iconst (n := 2) rfl (by unfold iR; omega) ?_
    refine i_icmp_ne_t rfl (by first | omega | assumption) ?_
    refine i_iconst (n := 0) rfl (by unfold iR; omega) ?_
    -- at 37
    refine i_call (T := (123, zp_123)) rfl rfl (k1) rfl rfl rfl rfl rfl rfl rfl ?_
    try dsimp only
    refine i_goto rfl ?_
    -- at 47
    exact fin M' k4
  · subst e
    obtain ⟨M', k1, k2, k3, k4⟩ := d_mtE (b := b) (ap := 1) n1 h96 s1 (Or.inr rfl) o1
    rw [sA_1] at k4
    refine ⟨M', ?_, Fr_t f1 k2 (by decide), fun k a1 a2 a3 => by rw [k3 k a1]; exact g1 k a1 a2 a3, k4, by rw [k3 21 (by decide)]; rfl⟩
    refine i_aload_n rfl rfl ?_
    refine i_iconst (n := 0) rfl (by unfold iR; omega) ?_
    refine i_puti rfl rfl rfl rfl ?_
    refine i_aload_n rfl rfl ?_
    refine i_iload_n rfl rfl ?_
    refine i_putz rfl rfl rfl rfl (by first | omega | assumption) ?_
    refine i_iload_n rfl rfl ?_
    refine i_if_ne_t rfl (by first | omega | assumption) ?_
    refine i_iload_n rfl rfl ?_
    refine i_iconst (n := 3) rfl (by unfold iR; omega) ?_
    refine i_icmp_ge_f rfl (by first | omega | assumption) ?_
    refine i_aload_n rfl rfl ?_
    refine i_iload_n rfl rfl ?_
    refine i_iconst (n := 2) rfl (by unfold iR; omega) ?_
    refine i_icmp_ne_f rfl (by first | omega | assumption) ?_
    refine i_iconst (n := 1) rfl (by unfold iR; omega) ?_
    refine i_goto rfl ?_
    -- at 37
    refine i_call (T := (123, zp_123)) rfl rfl (k1) rfl rfl rfl rfl rfl rfl rfl ?_
    try dsimp only
    refine i_goto rfl ?_
    -- at 47
    exact fin M' k4
  · subst e
    obtain ⟨M', k1, k2, k3, k4⟩ := d_pfE (b := b) n1 h96 (by omega) s1 o1 (by
      rcases hw with z | z
      · left; exact z
      · right; exact z.2.2)
    refine ⟨M', ?_, Fr_t f1 k2 (by decide), fun k a1 a2 a3 => by rw [k3 k a1 a3]; exact g1 k a1 a2 a3, k4, by rw [k3 21 (by decide) (by decide)]; rfl⟩
    refine i_aload_n rfl rfl ?_
    refine i_iconst (n := 0) rfl (by unfold iR; omega) ?_
    refine i_puti rfl rfl rfl rfl ?_
    refine i_aload_n rfl rfl ?_
    refine i_iload_n rfl rfl ?_
    refine i_putz rfl rfl rfl rfl (by first | omega | assumption) ?_
    refine i_iload_n rfl rfl ?_
    refine i_if_ne_t rfl (by first | omega | assumption) ?_
    refine i_iload_n rfl rfl ?_
    refine i_iconst (n := 3) rfl (by unfold iR; omega) ?_
    refine i_icmp_ge_t rfl (by first | omega | assumption) ?_
    refine i_aload_n rfl rfl ?_
    -- at 44
    refine i_call (T := (128, zp_128)) rfl rfl (k1) rfl rfl rfl rfl rfl rfl rfl ?_
    try dsimp only
    exact fin M' k4
set_option maxRecDepth 100000 in
theorem d_block {b : Bool} {M : iM} {S : Nat → Int} {n : Nat} (hn : M 40 14 = (n : Int)) (h96 : n ≤ 96) (hS : ∀ j, j < n → M 48 j = S j ∧ 0 ≤ S j ∧ S j < 256) : ∃ M', irun none zp_130 0 (i_ent [iP 40] 5) [] (SH b) M 0 0 (none, SH b, M') ∧ Fr [40, 50, 53, 54, 55, 56, 57, 58, 59] M M' ∧ (∀ k, k ≠ 20 → k ≠ 21 → k ≠ 25 → k ≠ 26 → M' 40 k = M 40 k) ∧ M' 50 0 = ((chs S n 4).1 : Int) ∧ M' 50 1 = (n : Int) ∧ M' 50 2 = ((chs S n 4).2 : Int) ∧ (∀ k, k < 125 → M' 50 (3 + k) = pk (eN S n (chs S n 4).1) k) ∧ M' 40 25 = ((chs S n 4).2 : Int) + 3 := by
  have loop : ∀ (d c : Nat) (M1 : iM) (x : Option iV), 1 ≤ c → c + d = 4 → Fr [40, 50, 53, 54, 55, 56, 57, 58, 59] M M1 → G4 M M1 → ∃ M2 y, (∀ q, irun none zp_130 73 [some (iP 40), some (iI ((chs S n 4).1 : Int)), some (iI ((chs S n 4).2 : Int)), some (iI ((4 : Nat) : Int)), y] [] (SH b) M2 0 0 q → irun none zp_130 11 [some (iP 40), some (iI ((chs S n c).1 : Int)), some (iI ((chs S n c).2 : Int)), some (iI (c : Int)), x] [] (SH b) M1 0 0 q) ∧ Fr [40, 50, 53, 54, 55, 56, 57, 58, 59] M M2 ∧ G4 M M2 := by
    intro d
    induction d with
    | zero =>
      intro c M1 x h1 hc f1 g1
      obtain rfl : c = 4 := by omega
      refine ⟨M1, x, fun q hq => ?_, f1, g1⟩
      refine i_iload_n rfl rfl ?_
      refine i_iconst (n := 4) rfl (by unfold iR; omega) ?_
      refine i_icmp_ge_t rfl (by first | omega | assumption) ?_
      -- at 73
      exact hq
    | succ d ih =>
      intro c M1 x h1 hc f1 g1
      have hcb : (chs S n c).2 ≤ n := by
        have := (chs_b (S := S) h96 (c - 1)).1
        rw [show c - 1 + 1 = c by omega] at this
        exact this
      have ech : chs S n (c + 1) = if c = 3 ∧ n = 0 then chs S n c else if bc S n c < (chs S n c).2 then (c, bc S n c) else chs S n c := rfl
      have n1 : M1 40 14 = (n : Int) := by rw [g1 14 (by decide) (by decide) (by decide)]; exact hn
      have s1 : ∀ j, j < n → M1 48 j = S j ∧ 0 ≤ S j ∧ S j < 256 := fun j hj => by rw [f1 48 (by decide)]; exact hS j hj
      by_cases h30 : c = 3 ∧ n = 0
      · rw [if_pos h30] at ech
        obtain ⟨M2, y, k1, k2⟩ := ih (c + 1) M1 (some (iI 999)) (by omega) (by omega) f1 g1
        refine ⟨M2, y, fun q hq => ?_, k2⟩
        have k1 := k1 q hq
        rw [ech] at k1
        refine i_iload_n rfl rfl ?_
        refine i_iconst (n := 4) rfl (by unfold iR; omega) ?_
        refine i_icmp_ge_f rfl (by first | omega | assumption) ?_
        refine i_iload_n rfl rfl ?_
        refine i_iconst (n := 3) rfl (by unfold iR; omega) ?_
        refine i_icmp_ne_f rfl (by first | omega | assumption) ?_
        refine i_aload_n rfl rfl ?_
        refine i_getf rfl rfl rfl rfl (by decide) ?_
        -- at 25
        rw [n1]
        refine i_if_ne_f rfl (by first | omega | assumption) ?_
        refine i_sipush (n := 999) rfl (by unfold iR; omega) (by decide) ?_
        refine i_goto rfl ?_
        refine i_istore rfl (Nat.le_of_ble_eq_true rfl) rfl ?_
        refine i_iload rfl rfl ?_
        refine i_iload_n rfl rfl ?_
        refine i_icmp_ge_t rfl (by first | omega | assumption) ?_
        refine i_iload_n rfl rfl ?_
        refine i_istore_n rfl (Nat.le_of_ble_eq_true rfl) rfl ?_
        refine i_iload rfl rfl ?_
        refine i_iload_n rfl rfl ?_
        refine i_icmp_ge_t rfl (by first | omega | assumption) ?_
        refine i_iload_n rfl rfl ?_
        refine i_istore_n rfl (Nat.le_of_ble_eq_true rfl) rfl ?_
        refine i_iinc rfl rfl (by unfold iR; omega) (Nat.le_of_ble_eq_true rfl) rfl ?_
        refine i_goto rfl ?_
        -- at 11
        exact k1
      · rw [if_neg h30] at ech
        obtain ⟨M2, a1, a2, a3, a4, a5⟩ := d_packed (b := b) (c := c) (w := 0) n1 h96 (by omega) h30 s1 (Or.inl rfl)
        have hlen := eN_len (c := c) (fun j hj => (hS j hj).2) h96 h30 (by omega)
        have hbc : bc S n c ≤ 1000 := by unfold bc; omega
        have pre : ∀ q, irun none zp_130 40 [some (iP 40), some (iI ((chs S n c).1 : Int)), some (iI ((chs S n c).2 : Int)), some (iI (c : Int)), x] [iI (bc S n c : Int)] (SH b) M2 0 0 q → irun none zp_130 11 [some (iP 40), some (iI ((chs S n c).1 : Int)), some (iI ((chs S n c).2 : Int)), some (iI (c : Int)), x] [] (SH b) M1 0 0 q := by
          intro q hq
          by_cases e3 : c = 3
          · refine i_iload_n rfl rfl ?_
            refine i_iconst (n := 4) rfl (by unfold iR; omega) ?_
            refine i_icmp_ge_f rfl (by first | omega | assumption) ?_
            refine i_iload_n rfl rfl ?_
            refine i_iconst (n := 3) rfl (by unfold iR; omega) ?_
            refine i_icmp_ne_f rfl (by first | omega | assumption) ?_
            refine i_aload_n rfl rfl ?_
            refine i_getf rfl rfl rfl rfl (by decide) ?_
            -- at 25
            rw [n1]
            refine i_if_ne_t rfl (by first | omega | assumption) ?_
            refine i_aload_n rfl rfl ?_
            refine i_iload_n rfl rfl ?_
            refine i_iconst (n := 0) rfl (by unfold iR; omega) ?_
            -- at 37
            refine i_call (T := (129, zp_129)) rfl rfl (a1) rfl rfl rfl rfl rfl rfl rfl ?_
            try dsimp only
            exact hq
          · refine i_iload_n rfl rfl ?_
            refine i_iconst (n := 4) rfl (by unfold iR; omega) ?_
            refine i_icmp_ge_f rfl (by first | omega | assumption) ?_
            refine i_iload_n rfl rfl ?_
            refine i_iconst (n := 3) rfl (by unfold iR; omega) ?_
            refine i_icmp_ne_t rfl (by first | omega | assumption) ?_
            refine i_aload_n rfl rfl ?_
            refine i_iload_n rfl rfl ?_
            refine i_iconst (n := 0) rfl (by unfold iR; omega) ?_
            -- at 37
            refine i_call (T := (129, zp_129)) rfl rfl (a1) rfl rfl rfl rfl rfl rfl rfl ?_
            try dsimp only
            exact hq
        have f2 := Fr_t f1 a2 (by decide)
        have g2 : G4 M M2 := fun k k1 k2 k3 => by rw [a3 k k1 k2 k3]; exact g1 k k1 k2 k3
        obtain ⟨M3, y, k1, k2⟩ := ih (c + 1) M2 (some (iI (bc S n c : Int))) (by omega) (by omega) f2 g2
        refine ⟨M3, y, fun q hq => pre q ?_, k2⟩
        have k1 := k1 q hq
        rw [ech] at k1
        by_cases e : bc S n c < (chs S n c).2
        · rw [if_pos e] at k1
          refine i_istore rfl (Nat.le_of_ble_eq_true rfl) rfl ?_
          refine i_iload rfl rfl ?_
          refine i_iload_n rfl rfl ?_
          refine i_icmp_ge_f rfl (by first | omega | assumption) ?_
          refine i_iload_n rfl rfl ?_
          refine i_goto rfl ?_
          refine i_istore_n rfl (Nat.le_of_ble_eq_true rfl) rfl ?_
          refine i_iload rfl rfl ?_
          refine i_iload_n rfl rfl ?_
          refine i_icmp_ge_f rfl (by first | omega | assumption) ?_
          refine i_iload rfl rfl ?_
          refine i_goto rfl ?_
          refine i_istore_n rfl (Nat.le_of_ble_eq_true rfl) rfl ?_
          refine i_iinc rfl rfl (by unfold iR; omega) (Nat.le_of_ble_eq_true rfl) rfl ?_
          refine i_goto rfl ?_
          -- at 11
          exact k1
        · rw [if_neg e] at k1
          refine i_istore rfl (Nat.le_of_ble_eq_true rfl) rfl ?_
          refine i_iload rfl rfl ?_
          refine i_iload_n rfl rfl ?_
          refine i_icmp_ge_t rfl (by first | omega | assumption) ?_
          refine i_iload_n rfl rfl ?_
          refine i_istore_n rfl (Nat.le_of_ble_eq_true rfl) rfl ?_
          refine i_iload rfl rfl ?_
          refine i_iload_n rfl rfl ?_
          refine i_icmp_ge_t rfl (by first | omega | assumption) ?_
          refine i_iload_n rfl rfl ?_
          refine i_istore_n rfl (Nat.le_of_ble_eq_true rfl) rfl ?_
          refine i_iinc rfl rfl (by unfold iR; omega) (Nat.le_of_ble_eq_true rfl) rfl ?_
          refine i_goto rfl ?_
          -- at 11
          exact k1
  have n0 := hn
  obtain ⟨M1, a1, a2, a3, a4, a5⟩ := d_packed (b := b) (c := 0) (w := 0) hn h96 (by omega) (by omega) hS (Or.inl rfl)
  obtain ⟨M2, y, k1, k2, k3⟩ := loop 3 1 M1 none (by omega) (by omega) a2 a3
  rw [chs_1 h96] at k1
  rw [bc_0] at a1
  obtain ⟨c1, c2, c3, c4⟩ := chs_b (S := S) h96 3
  have c1 : (chs S n 4).2 ≤ n := c1
  have c2 : (chs S n 4).1 ≤ 3 := c2
  have c3 : (chs S n 4).2 = bc S n (chs S n 4).1 := c3
  have c4 : ¬ ((chs S n 4).1 = 3 ∧ n = 0) := c4
  -- the zeros
  have zer : ∀ q, irun none zp_130 95 [some (iP 40), some (iI ((chs S n 4).1 : Int)), some (iI ((chs S n 4).2 : Int)), some (iI ((128 : Nat) : Int)), y] [] (SH b) (va_up M2 50 (fun k => if k < 128 then 0 else M2 50 k)) 0 0 q → ∀ (d k : Nat), k + d = 128 → irun none zp_130 75 [some (iP 40), some (iI ((chs S n 4).1 : Int)), some (iI ((chs S n 4).2 : Int)), some (iI (k : Int)), y] [] (SH b) (va_up M2 50 (fun j => if j < k then 0 else M2 50 j)) 0 0 q := by
    intro q hq d
    induction d with
    | zero =>
      intro k hk
      obtain rfl : k = 128 := by omega
      refine i_iload_n rfl rfl ?_
      refine i_sipush (n := 128) rfl (by unfold iR; omega) (by decide) ?_
      refine i_icmp_ge_t rfl (by first | omega | assumption) ?_
      -- at 95
      exact hq
    | succ d ih =>
      intro k hk
      have g1 := ih (k + 1) (by omega)
      have e : i_st (va_up M2 50 (fun j => if j < k then 0 else M2 50 j)) 50 k 0 = va_up M2 50 (fun j => if j < k + 1 then 0 else M2 50 j) := by
        funext c j
        unfold i_st
        by_cases e1 : c = 50
        · rw [e1, up_s, up_s, up_s]
          by_cases e2 : j = k
          · rw [e2, up_s, if_pos (by omega)]
          · rw [up_n e2]
            by_cases e3 : j < k
            · rw [if_pos e3, if_pos (by omega)]
            · rw [if_neg e3, if_neg (by omega)]
        · rw [up_n e1, up_n e1, up_n e1]
      rw [← e] at g1
      refine i_iload_n rfl rfl ?_
      refine i_sipush (n := 128) rfl (by unfold iR; omega) (by decide) ?_
      refine i_icmp_ge_f rfl (by first | omega | assumption) ?_
      refine i_aload_n rfl rfl ?_
      refine i_getr rfl rfl rfl rfl (by decide) rfl ?_
      refine i_iload_n rfl rfl ?_
      refine i_iconst (n := 0) rfl (by unfold iR; omega) ?_
      refine i_iast rfl rfl (by first | omega | assumption) (by first | omega | assumption) ?_
      refine i_iinc rfl rfl (by unfold iR; omega) (Nat.le_of_ble_eq_true rfl) rfl ?_
      refine i_goto rfl ?_
      -- at 75
      rw [show (k : Int).toNat = k by omega]
      exact g1
  have f3 : Fr [40, 50, 53, 54, 55, 56, 57, 58, 59] M (va_up M2 50 (fun k => if k < 128 then 0 else M2 50 k)) := Fr_up k2 (by decide)
  obtain ⟨M4, b1, b2, b3, b4, b5⟩ := d_packed (b := b) (M := va_up M2 50 (fun k => if k < 128 then 0 else M2 50 k)) (c := (chs S n 4).1) (w := 1) (by
    show M2 40 14 = _
    rw [k3 14 (by decide) (by decide) (by decide)]; exact hn) h96 (by omega) c4 (fun j hj => by rw [f3 48 (by decide)]; exact hS j hj) (Or.inr ⟨rfl, fun k hk => by
      rw [up_s, if_pos (by omega)], by
      unfold bc at c3
      omega⟩)
  have b6 : ∀ k, k < 125 → M4 50 (3 + k) = pk (eN S n (chs S n 4).1) k := by
    rcases b4.2.1 with z | z
    · omega
    · exact z.2
  have n4 : M4 40 14 = (n : Int) := by
    rw [b3 14 (by decide) (by decide) (by decide)]
    show M2 40 14 = _
    rw [k3 14 (by decide) (by decide) (by decide)]; exact hn
  refine ⟨i_st (i_st (i_st (i_st M4 50 0 ((chs S n 4).1 : Int)) 50 1 (n : Int)) 50 2 ((chs S n 4).2 : Int)) 40 25 (((chs S n 4).2 : Int) + 3), ?_, Fr_st (Fr_st (Fr_st (Fr_st (Fr_t f3 b2 (by decide)) (by decide)) (by decide)) (by decide)) (by decide), fun k a1 a2 a3 a4 => ?_, rfl, rfl, rfl, fun k hk => ?_, rfl⟩
  · refine i_iconst (n := 0) rfl (by unfold iR; omega) ?_
    refine i_istore_n rfl (Nat.le_of_ble_eq_true rfl) rfl ?_
    refine i_aload_n rfl rfl ?_
    refine i_iconst (n := 0) rfl (by unfold iR; omega) ?_
    refine i_iconst (n := 0) rfl (by unfold iR; omega) ?_
    -- at 5
    refine i_call (T := (129, zp_129)) rfl rfl (a1) rfl rfl rfl rfl rfl rfl rfl ?_
    try dsimp only
    refine i_istore_n rfl (Nat.le_of_ble_eq_true rfl) rfl ?_
    refine i_iconst (n := 1) rfl (by unfold iR; omega) ?_
    refine i_istore_n rfl (Nat.le_of_ble_eq_true rfl) rfl ?_
    -- at 11
    refine k1 _ ?_
    refine i_iconst (n := 0) rfl (by unfold iR; omega) ?_
    refine i_istore_n rfl (Nat.le_of_ble_eq_true rfl) rfl ?_
    -- at 75
    refine cast (congrArg (fun z => irun none zp_130 75 [some (iP 40), some (iI ((chs S n 4).1 : Int)), some (iI ((chs S n 4).2 : Int)), some (iI 0), y] [] (SH b) z 0 0 _) ?_) (zer _ ?_ 128 0 (by omega))
    · funext c j
      by_cases e : c = 50
      · rw [e, up_s, if_neg (by omega)]
      · rw [up_n e]
    · refine i_aload_n rfl rfl ?_
      refine i_iload_n rfl rfl ?_
      refine i_iconst (n := 1) rfl (by unfold iR; omega) ?_
      -- at 98
      refine i_call (T := (129, zp_129)) rfl rfl (b1) rfl rfl rfl rfl rfl rfl rfl ?_
      try dsimp only
      first | refine i_pop rfl ?_ | refine i_popr rfl ?_
      refine i_aload_n rfl rfl ?_
      refine i_getr rfl rfl rfl rfl (by decide) rfl ?_
      refine i_iconst (n := 0) rfl (by unfold iR; omega) ?_
      refine i_iload_n rfl rfl ?_
      refine i_iast rfl rfl (by first | omega | assumption) (by first | omega | assumption) ?_
      refine i_aload_n rfl rfl ?_
      refine i_getr rfl rfl rfl rfl (by decide) rfl ?_
      refine i_iconst (n := 1) rfl (by unfold iR; omega) ?_
      refine i_aload_n rfl rfl ?_
      refine i_getf rfl rfl rfl rfl (by decide) ?_
      -- at 118
      show irun none zp_130 118 _ (iI (M4 40 14) :: _) _ _ 0 0 _
      rw [n4]
      refine i_iast rfl rfl (by first | omega | assumption) (by first | omega | assumption) ?_
      refine i_aload_n rfl rfl ?_
      refine i_getr rfl rfl rfl rfl (by decide) rfl ?_
      refine i_iconst (n := 2) rfl (by unfold iR; omega) ?_
      refine i_iload_n rfl rfl ?_
      refine i_iast rfl rfl (by first | omega | assumption) (by first | omega | assumption) ?_
      refine i_aload_n rfl rfl ?_
      refine i_iload_n rfl rfl ?_
      refine i_iconst (n := 3) rfl (by unfold iR; omega) ?_
      refine i_iadd rfl (by unfold iR; omega) ?_
      refine i_puti rfl rfl rfl rfl ?_
      -- at 133
      exact i_vreturn rfl rfl
  · show va_up (M4 40) 25 _ k = _
    rw [up_n a3, b3 k a1 a2 a4]
    exact k3 k a1 a2 a4
  · show va_up (va_up (va_up (M4 50) 0 _) 1 _) 2 _ (3 + k) = _
    rw [up_n (by omega), up_n (by omega), up_n (by omega)]
    exact b6 k hk
