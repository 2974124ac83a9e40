set_option maxRecDepth 100000 in
theorem c_load {b : Bool} {M : iM} {m : Nat} (hm : m ≤ 255) : ∃ M', irun none zp_78 0 (i_ent [iP 28, iP 34, iI 3, iI (m : Int)] 4) [] (SH b) M 0 0 (none, SH b, M') ∧ Fr [28, 29] M M' ∧ M' 28 1 = ((8 * m : Nat) : Int) ∧ M' 28 2 = 0 ∧ ∀ k, k < m → M' 29 k = M 34 (3 + k) := by
  refine ⟨i_st (i_st (i_cp M 34 3 29 0 m) 28 1 ((m : Int) * 8)) 28 2 0, ?_, Fr_st (Fr_st (Fr_cp (Fr_r _ _) (by decide)) (by decide)) (by decide), ?_, rfl, fun k hk => ?_⟩
  · refine i_aload_n rfl rfl ?_
    refine i_iload_n rfl rfl ?_
    refine i_aload_n rfl rfl ?_
    refine i_getr rfl rfl rfl rfl (by decide) rfl ?_
    refine i_iconst (n := 0) rfl (by unfold iR; omega) ?_
    refine i_iload_n rfl rfl ?_
    -- at 8
    refine i_copy (n0 := 528) (n1 := 256) rfl rfl rfl rfl (by omega) (by omega) (by omega) (by omega) (by omega) (Nat.le_of_ble_eq_true rfl) ?_
    rw [show (m : Int).toNat = m by omega]
    refine i_aload_n rfl rfl ?_
    refine i_iload_n rfl rfl ?_
    refine i_bipush (n := 8) rfl (by unfold iR; omega) (by decide) ?_
    refine i_imul rfl (by unfold iR; omega) ?_
    refine i_puti rfl rfl rfl rfl ?_
    refine i_aload_n rfl rfl ?_
    refine i_iconst (n := 0) rfl (by unfold iR; omega) ?_
    refine i_puti rfl rfl rfl rfl ?_
    -- at 24
    exact i_vreturn rfl rfl
  · show (m : Int) * 8 = _
    omega
  · show (if 0 ≤ k ∧ k < 0 + m then M 34 (3 + (k - 0)) else _) = _
    rw [if_pos (by omega)]
    rfl
set_option maxRecDepth 100000 in
theorem c_unpack {b : Bool} {M : iM} {T : Nat → Int} {s : Nat} (hs1 : 1 ≤ s) (hs2 : s ≤ 46) (hT : ∀ j, j < 11 * s → M 34 j = T j ∧ 0 ≤ T j ∧ T j < 256) :
    ∃ M', irun none zp_107 0 (i_ent [iP 11, iP 34, iI (11 * (s : Int))] 4) [] (SH b) M 0 0 (some (ob (unp T (11 * (s : Int)))), SH b, M') ∧ Fr [11, 18, 19, 20, 21, 24, 25, 26, 28, 29, 31] M M' ∧ ∀ R, unp T (11 * (s : Int)) = some R → M' 11 5 = T 1 ∧ ∀ j : Nat, (j : Int) < T 1 → M' 31 j = R j := by
  obtain ⟨t0, t0b⟩ := hT 0 (by omega)
  obtain ⟨t1, t1b⟩ := hT 1 (by omega)
  obtain ⟨t2, t2b⟩ := hT 2 (by omega)
  obtain ⟨codec, ec⟩ := Int.eq_ofNat_of_zero_le t0b.1
  obtain ⟨all, ea⟩ := Int.eq_ofNat_of_zero_le t1b.1
  obtain ⟨m, em⟩ := Int.eq_ofNat_of_zero_le t2b.1
  by_cases hc : T 0 ≤ 3 ∧ 3 + T 2 ≤ 11 * (s : Int)
  · have eu : unp T (11 * (s : Int)) = dcD (codec : Int) (fun k => T (3 + k)) m all := by
      unfold unp
      rw [if_pos hc, ec, em, ea]
      rfl
    rw [eu, ea]
    obtain ⟨M1, h1, f1, l1, l2, l3⟩ := c_load (b := b) (M := i_st M 11 5 (all : Int)) (m := m) (by omega)
    have hB : BS M1 (fun k => T (3 + k)) m 0 := ⟨l1, l2, fun k hk => (l3 k hk).trans (hT (3 + k) (by omega)).1⟩
    have e11 : M1 11 5 = (all : Int) := by rw [f1 11 (by decide)]; rfl
    have fr1 : Fr [11, 18, 19, 20, 21, 24, 25, 26, 28, 29, 31] M M1 := Fr_t (Fr_st (Fr_r _ _) (by decide)) f1 (by decide)
    have hpre : ∀ (q : Option Int × List zS × iM) (p : Nat), z_at [some 13, some 14, some 15, some 18] codec = some (some p) → irun none zp_107 61 [some (iP 11), some (iP 34), some (iI (11 * (s : Int))), some (iI (codec : Int))] [iI (all : Int), iP 31, iP 28, iP p] (SH b) M1 0 0 q → irun none zp_107 0 (i_ent [iP 11, iP 34, iI (11 * (s : Int))] 4) [] (SH b) M 0 0 q := by
      intro q p hp hq
      refine i_aload_n rfl rfl ?_
      refine i_iconst (n := 0) rfl (by unfold iR; omega) ?_
      refine i_iald rfl rfl (by first | omega | assumption) (by first | omega | assumption) (by decide) ?_
      -- at 3
      show irun none zp_107 3 _ (iI (M 34 0) :: _) _ _ 0 0 _
      rw [t0, ec]
      refine i_istore_n rfl (Nat.le_of_ble_eq_true rfl) rfl ?_
      refine i_iload_n rfl rfl ?_
      refine i_aload_n rfl rfl ?_
      refine i_getr rfl rfl rfl rfl (by decide) rfl ?_
      refine i_alen rfl rfl (by omega) (by decide) ?_
      refine i_icmp_ge_f rfl (by first | omega | assumption) ?_
      refine i_iconst (n := 3) rfl (by unfold iR; omega) ?_
      refine i_aload_n rfl rfl ?_
      refine i_iconst (n := 2) rfl (by unfold iR; omega) ?_
      refine i_iald rfl rfl (by first | omega | assumption) (by first | omega | assumption) (by decide) ?_
      -- at 17
      show irun none zp_107 17 _ (iI (M 34 2) :: _) _ _ 0 0 _
      rw [t2, em]
      refine i_iadd rfl (by unfold iR; omega) ?_
      refine i_iload_n rfl rfl ?_
      refine i_icmp_le_t rfl (by first | omega | assumption) ?_
      refine i_aload_n rfl rfl ?_
      refine i_aload_n rfl rfl ?_
      refine i_iconst (n := 1) rfl (by unfold iR; omega) ?_
      refine i_iald rfl rfl (by first | omega | assumption) (by first | omega | assumption) (by decide) ?_
      -- at 28
      show irun none zp_107 28 _ (iI (M 34 1) :: _) _ _ 0 0 _
      rw [t1, ea]
      refine i_puti rfl rfl rfl rfl ?_
      refine i_aload_n rfl rfl ?_
      refine i_getr rfl rfl rfl rfl (by decide) rfl ?_
      refine i_aload_n rfl rfl ?_
      refine i_iconst (n := 3) rfl (by unfold iR; omega) ?_
      refine i_aload_n rfl rfl ?_
      refine i_iconst (n := 2) rfl (by unfold iR; omega) ?_
      refine i_iald rfl rfl (by first | omega | assumption) (by first | omega | assumption) (by decide) ?_
      -- at 40
      show irun none zp_107 40 _ (iI (M 34 2) :: _) _ _ 0 0 _
      rw [t2, em]
      refine i_call (T := (78, zp_78)) rfl rfl (h1) rfl rfl rfl rfl rfl rfl rfl ?_
      try dsimp only
      refine i_aload_n rfl rfl ?_
      refine i_getr rfl rfl rfl rfl (by decide) rfl ?_
      refine i_iload_n rfl rfl ?_
      -- at 48
      refine i_aald (n := 4) rfl rfl (by omega) (by omega) (p2 := p) (by rw [show (codec : Int).toNat = codec by omega]; exact hp) ?_
      refine i_aload_n rfl rfl ?_
      refine i_getr rfl rfl rfl rfl (by decide) rfl ?_
      refine i_aload_n rfl rfl ?_
      refine i_getr rfl rfl rfl rfl (by decide) rfl ?_
      refine i_aload_n rfl rfl ?_
      refine i_getf rfl rfl rfl rfl (by decide) ?_
      -- at 61
      rw [e11]
      exact hq
    rcases (show codec = 0 ∨ codec = 1 ∨ codec = 2 ∨ codec = 3 by omega) with c | c | c | c
    · subst c
      obtain ⟨M2, h2, f2, g2⟩ := c_stored (b := b) hB (show m ≤ 256 by omega) (show all ≤ 255 by omega)
      have ed : dcD ((0 : Nat) : Int) (fun k => T (3 + k)) m all = st0 (fun k => T (3 + k)) m all := rfl
      rw [ed]
      refine ⟨M2, hpre _ 13 rfl ?_, Fr_t fr1 f2 (by decide), fun R hR => ⟨by rw [f2 11 (by decide)]; exact e11, fun j hj => (g2 R hR j (by omega)).1⟩⟩
      refine i_call (T := (84, zp_84)) rfl rfl h2 rfl rfl rfl rfl rfl rfl rfl ?_
      try dsimp only
      show irun none zp_107 66 _ (iI (ob (st0 (fun k => T (3 + k)) m all)) :: _) _ _ 0 0 _
      have hz : ob (st0 (fun k => T (3 + k)) m all) = 0 ∨ ob (st0 (fun k => T (3 + k)) m all) = 1 := by unfold ob; split <;> simp
      exact i_zreturn rfl rfl (by first | omega | assumption)
    · subst c
      obtain ⟨M2, h2, f2, g2⟩ := c_matches (b := b) (p := 14) hB (show m ≤ 256 by omega) (show all ≤ 255 by omega)
      have ed : dcD ((1 : Nat) : Int) (fun k => T (3 + k)) m all = mrn (fun k => T (3 + k)) m all all 0 0 (fun _ => 0) := rfl
      rw [ed]
      refine ⟨M2, hpre _ 14 rfl ?_, Fr_t fr1 f2 (by decide), fun R hR => ⟨by rw [f2 11 (by decide)]; exact e11, fun j hj => (g2 R hR j (by omega)).1⟩⟩
      refine i_call (T := (89, zp_89)) rfl rfl h2 rfl rfl rfl rfl rfl rfl rfl ?_
      try dsimp only
      show irun none zp_107 66 _ (iI (ob (mrn (fun k => T (3 + k)) m all all 0 0 (fun _ => 0))) :: _) _ _ 0 0 _
      have hz : ob (mrn (fun k => T (3 + k)) m all all 0 0 (fun _ => 0)) = 0 ∨ ob (mrn (fun k => T (3 + k)) m all all 0 0 (fun _ => 0)) = 1 := by unfold ob; split <;> simp
      exact i_zreturn rfl rfl (by first | omega | assumption)
    · subst c
      obtain ⟨M2, h2, f2, g2⟩ := c_diff (b := b) hB (show m ≤ 256 by omega) (show all ≤ 255 by omega)
      have ed : dcD ((2 : Nat) : Int) (fun k => T (3 + k)) m all = (mrn (fun k => T (3 + k)) m all all 0 0 (fun _ => 0)).map (fun R => dfN R all) := rfl
      rw [ed]
      refine ⟨M2, hpre _ 15 rfl ?_, Fr_t fr1 f2 (by decide), fun R hR => ⟨by rw [f2 11 (by decide)]; exact e11, fun j hj => (g2 R hR j (by omega)).1⟩⟩
      refine i_call (T := (94, zp_94)) rfl rfl h2 rfl rfl rfl rfl rfl rfl rfl ?_
      try dsimp only
      generalize (mrn (fun k => T (3 + k)) m all all 0 0 (fun _ => 0)).map (fun R => dfN R all) = o
      show irun none zp_107 66 _ (iI (ob o) :: _) _ _ 0 0 _
      have hz : ob o = 0 ∨ ob o = 1 := by unfold ob; split <;> simp
      exact i_zreturn rfl rfl (by first | omega | assumption)
    · subst c
      obtain ⟨M2, h2, f2, g2⟩ := c_prefix (b := b) hB (show m ≤ 256 by omega) (show all ≤ 255 by omega)
      have ed : dcD ((3 : Nat) : Int) (fun k => T (3 + k)) m all = pfx (fun k => T (3 + k)) m all := rfl
      rw [ed]
      refine ⟨M2, hpre _ 18 rfl ?_, Fr_t fr1 f2 (by decide), fun R hR => ⟨by rw [f2 11 (by decide)]; exact e11, fun j hj => (g2 R hR j (by omega)).1⟩⟩
      refine i_call (T := (102, zp_102)) rfl rfl h2 rfl rfl rfl rfl rfl rfl rfl ?_
      try dsimp only
      generalize pfx (fun k => T (3 + k)) m all = o
      show irun none zp_107 66 _ (iI (ob o) :: _) _ _ 0 0 _
      have hz : ob o = 0 ∨ ob o = 1 := by unfold ob; split <;> simp
      exact i_zreturn rfl rfl (by first | omega | assumption)
  · have eu : unp T (11 * (s : Int)) = none := by
      unfold unp
      rw [if_neg hc]
    rw [eu]
    refine ⟨M, ?_, Fr_r _ _, fun R hR => by cases hR⟩
    refine i_aload_n rfl rfl ?_
    refine i_iconst (n := 0) rfl (by unfold iR; omega) ?_
    refine i_iald rfl rfl (by first | omega | assumption) (by first | omega | assumption) (by decide) ?_
    -- at 3
    show irun none zp_107 3 _ (iI (M 34 0) :: _) _ _ 0 0 _
    rw [t0, ec]
    by_cases c1 : (4 : Int) ≤ codec
    · refine i_istore_n rfl (Nat.le_of_ble_eq_true rfl) rfl ?_
      refine i_iload_n rfl rfl ?_
      refine i_aload_n rfl rfl ?_
      refine i_getr rfl rfl rfl rfl (by decide) rfl ?_
      refine i_alen rfl rfl (by omega) (by decide) ?_
      refine i_icmp_ge_t rfl (by first | omega | assumption) ?_
      refine i_iconst (n := 0) rfl (by unfold iR; omega) ?_
      -- at 23
      exact i_zreturn rfl rfl (by first | omega | assumption)
    · refine i_istore_n rfl (Nat.le_of_ble_eq_true rfl) rfl ?_
      refine i_iload_n rfl rfl ?_
      refine i_aload_n rfl rfl ?_
      refine i_getr rfl rfl rfl rfl (by decide) rfl ?_
      refine i_alen rfl rfl (by omega) (by decide) ?_
      refine i_icmp_ge_f rfl (by first | omega | assumption) ?_
      refine i_iconst (n := 3) rfl (by unfold iR; omega) ?_
      refine i_aload_n rfl rfl ?_
      refine i_iconst (n := 2) rfl (by unfold iR; omega) ?_
      refine i_iald rfl rfl (by first | omega | assumption) (by first | omega | assumption) (by decide) ?_
      -- at 17
      show irun none zp_107 17 _ (iI (M 34 2) :: _) _ _ 0 0 _
      rw [t2, em]
      refine i_iadd rfl (by unfold iR; omega) ?_
      refine i_iload_n rfl rfl ?_
      refine i_icmp_le_f rfl (by first | omega | assumption) ?_
      refine i_iconst (n := 0) rfl (by unfold iR; omega) ?_
      -- at 23
      exact i_zreturn rfl rfl (by first | omega | assumption)
theorem ob_01 {α : Type} (o : Option α) : ob o = 0 ∨ ob o = 1 := by
  unfold ob
  split
  · exact Or.inr rfl
  · exact Or.inl rfl
/-- what a block's sectors hold -/
noncomputable def blk (f : Nat → Int) (first s : Nat) : Option (Nat → Int) := if lkN f first s = 1 then unp (Rd f first) (11 * (s : Int)) else none
set_option maxRecDepth 100000 in
theorem c_dblock {b : Bool} {M : iM} {first s : Nat} (hs1 : 1 ≤ s) (hs : first + s ≤ 48) (hs2 : s ≤ 46) (hf : by8 (M 2) 720) (hm : ∀ x : Nat, x < 256 → M 3 x = hN 8 (x : Int)) :
    ∃ M', irun none zp_21 0 (i_ent [iP 0, iI (first : Int), iI (s : Int)] 3) [] (SH b) M 0 0 (some (ob (blk (M 2) first s)), SH b, M') ∧ Fr [4, 11, 18, 19, 20, 21, 24, 25, 26, 28, 29, 31, 34] M M' ∧ ∀ R, blk (M 2) first s = some R → M' 11 5 = Rd (M 2) first 1 ∧ ∀ j : Nat, (j : Int) < Rd (M 2) first 1 → M' 31 j = R j := by
  obtain ⟨M1, h1, f1, g1⟩ := c_fetchRunF (b := b) (M := M) (first := first) (cnt := s) hs hf hm
  rcases lkN_01 (M 2) first s with hl | hl
  · have e : blk (M 2) first s = none := by unfold blk; rw [if_neg (by omega)]
    rw [e]
    refine ⟨M1, ?_, Fr_t (Fr_r _ _) f1 (by decide), fun R hR => by cases hR⟩
    refine i_aload_n rfl rfl ?_
    refine i_getr rfl rfl rfl rfl (by decide) rfl ?_
    refine i_iload_n rfl rfl ?_
    refine i_iload_n rfl rfl ?_
    refine i_aload_n rfl rfl ?_
    refine i_getr rfl rfl rfl rfl (by decide) rfl ?_
    -- at 10
    refine i_call (T := (46, zp_46)) rfl rfl (h1) rfl rfl rfl rfl rfl rfl rfl ?_
    try dsimp only
    show irun none zp_21 13 _ (iI (lkN (M 2) first s) :: _) _ _ 0 0 _
    rw [hl]
    refine i_if_eq_t rfl (by first | omega | assumption) ?_
    refine i_iconst (n := 0) rfl (by unfold iR; omega) ?_
    -- at 39
    exact i_zreturn rfl rfl (by first | omega | assumption)
  · have e : blk (M 2) first s = unp (Rd (M 2) first) (11 * (s : Int)) := by unfold blk; rw [if_pos hl]
    rw [e]
    have g1 := g1 hl
    obtain ⟨M2, h2, f2, g2⟩ := c_unpack (b := b) (M := M1) (T := Rd (M 2) first) hs1 hs2 (fun j hj => ⟨g1 j hj, rd_b hf (by omega) (by omega)⟩)
    have hz := ob_01 (unp (Rd (M 2) first) (11 * (s : Int)))
    rw [show 11 * (s : Int) = (s : Int) * 11 by omega] at h2 hz ⊢
    refine ⟨M2, ?_, Fr_t (Fr_t (Fr_r _ _) f1 (by decide)) f2 (by decide), ?_⟩
    · rcases hz with hz | hz
      · rw [hz] at h2 ⊢
        refine i_aload_n rfl rfl ?_
        refine i_getr rfl rfl rfl rfl (by decide) rfl ?_
        refine i_iload_n rfl rfl ?_
        refine i_iload_n rfl rfl ?_
        refine i_aload_n rfl rfl ?_
        refine i_getr rfl rfl rfl rfl (by decide) rfl ?_
        -- at 10
        refine i_call (T := (46, zp_46)) rfl rfl (h1) rfl rfl rfl rfl rfl rfl rfl ?_
        try dsimp only
        show irun none zp_21 13 _ (iI (lkN (M 2) first s) :: _) _ _ 0 0 _
        rw [hl]
        refine i_if_eq_f rfl (by first | omega | assumption) ?_
        refine i_aload_n rfl rfl ?_
        refine i_getr rfl rfl rfl rfl (by decide) rfl ?_
        refine i_aload_n rfl rfl ?_
        refine i_getr rfl rfl rfl rfl (by decide) rfl ?_
        refine i_iload_n rfl rfl ?_
        refine i_bipush (n := 11) rfl (by unfold iR; omega) (by decide) ?_
        refine i_imul rfl (by unfold iR; omega) ?_
        -- at 28
        refine i_call (T := (107, zp_107)) rfl rfl (h2) rfl rfl rfl rfl rfl rfl rfl ?_
        try dsimp only
        show irun none zp_21 31 _ (iI (0) :: _) _ _ 0 0 _
        refine i_if_eq_t rfl (by first | omega | assumption) ?_
        refine i_iconst (n := 0) rfl (by unfold iR; omega) ?_
        -- at 39
        exact i_zreturn rfl rfl (by first | omega | assumption)
      · rw [hz] at h2 ⊢
        refine i_aload_n rfl rfl ?_
        refine i_getr rfl rfl rfl rfl (by decide) rfl ?_
        refine i_iload_n rfl rfl ?_
        refine i_iload_n rfl rfl ?_
        refine i_aload_n rfl rfl ?_
        refine i_getr rfl rfl rfl rfl (by decide) rfl ?_
        -- at 10
        refine i_call (T := (46, zp_46)) rfl rfl (h1) rfl rfl rfl rfl rfl rfl rfl ?_
        try dsimp only
        show irun none zp_21 13 _ (iI (lkN (M 2) first s) :: _) _ _ 0 0 _
        rw [hl]
        refine i_if_eq_f rfl (by first | omega | assumption) ?_
        refine i_aload_n rfl rfl ?_
        refine i_getr rfl rfl rfl rfl (by decide) rfl ?_
        refine i_aload_n rfl rfl ?_
        refine i_getr rfl rfl rfl rfl (by decide) rfl ?_
        refine i_iload_n rfl rfl ?_
        refine i_bipush (n := 11) rfl (by unfold iR; omega) (by decide) ?_
        refine i_imul rfl (by unfold iR; omega) ?_
        -- at 28
        refine i_call (T := (107, zp_107)) rfl rfl (h2) rfl rfl rfl rfl rfl rfl rfl ?_
        try dsimp only
        show irun none zp_21 31 _ (iI (1) :: _) _ _ 0 0 _
        refine i_if_eq_f rfl (by first | omega | assumption) ?_
        refine i_iconst (n := 1) rfl (by unfold iR; omega) ?_
        refine i_goto rfl ?_
        -- at 39
        exact i_zreturn rfl rfl (by first | omega | assumption)
    · rw [show (s : Int) * 11 = 11 * (s : Int) by omega]
      exact g2
theorem Inv_k {w : Int} {b : Bool} {M M2 : iM} (h : Inv w b M) (hc : ∀ c, c ∈ [1, 2, 3, 5, 6, 7, 8, 9, 10, 32, 36, 37, 38, 39, 41, 42, 44, 45, 46, 47, 48, 49] → M2 c = M c) (h08 : M2 0 8 = M 0 8) (h40 : ∀ k, k < 26 → M2 40 k = M 40 k) (h8 : I8 M2) : Inv w b M2 := by
  obtain ⟨i1, i2, i3, i4, i5, i6, i7, -⟩ := h
  refine ⟨?_, ?_, ?_, ?_, ?_, ?_, ?_, h8⟩
  · unfold I1
    rw [hc 41 (by decide), hc 2 (by decide), hc 3 (by decide)]
    exact i1
  · unfold I2
    rw [hc 1 (by decide), h40 1 (by decide), h40 2 (by decide), h40 3 (by decide)]
    exact i2
  · unfold I3
    rw [hc 42 (by decide), hc (pI b) (by cases b <;> decide), hc (pI b + 1) (by cases b <;> decide), hc 32 (by decide), h40 8 (by decide), h40 6 (by decide), h40 7 (by decide)]
    exact i3
  · unfold I4
    rw [h40 9 (by decide), h08, hc 44 (by decide), hc 32 (by decide)]
    exact i4
  · unfold I5
    rw [h40 12 (by decide), hc 5 (by decide), hc 45 (by decide), hc 6 (by decide)]
    exact i5
  · unfold I6
    rw [h40 13 (by decide), h40 14 (by decide), hc 5 (by decide), hc 9 (by decide), hc 46 (by decide), hc 8 (by decide), hc 47 (by decide), hc 48 (by decide), hc 7 (by decide)]
    exact i6
  · unfold I7
    rw [h40 15 (by decide), hc 5 (by decide), hc 10 (by decide), hc 49 (by decide), hc (pI b) (by cases b <;> decide)]
    exact i7
set_option maxRecDepth 100000 in
theorem o_extract {w : Int} {b : Bool} {M : iM} {name ver : Int} (h : Inv w b M) : Op w b M zp_6 zp_154 [iI name, iI ver] := by
  have hi := h
  obtain ⟨⟨j1, j2, j3⟩, ⟨a1, a2, -⟩, ⟨⟨n1, n2⟩, e1, e2, e3, -⟩, -, -, -, -, ⟨⟨l1, l2, l3⟩, l4⟩⟩ := hi
  have e : M 2 = M 41 := funext j2
  have hf : by8 (M 2) 720 := by rw [e]; exact j1
  obtain ⟨n, en⟩ := Int.eq_ofNat_of_zero_le n1
  have hfc := c_find (b := b) (M := M) (p := pI b) (n := n) (name := name) (ver := ver) (pI_or b) en (by omega)
  have efn : fnd (fun k => M 42 (1 + k)) name ver n n = fnd (M (pI b + 1)) name ver n n := fnd_c n (Nat.le_refl _) (fun k hk => ⟨e2 (7 * k) (by omega), e2 (7 * k + 1) (by omega)⟩)
  have hfd : ∀ M1 : iM, M1 42 = M 42 → irun none zp_146 0 (i_ent [iP 40, iI name, iI ver] 4) [] (SH b) M1 0 0 (some (fnd (M (pI b + 1)) name ver n n), SH b, M1) := by
    intro M1 h42
    have := d_find (b := b) (M := M1) (n := n) (name := name) (ver := ver) (by rw [h42]; exact e1.trans en) (by omega)
    rw [h42, efn] at this
    exact this
  rcases a1 with a1 | a1
  · have hb := fnd_b (M (pI b + 1)) name ver n n (Nat.le_refl _)
    by_cases hk : fnd (M (pI b + 1)) name ver n n < 0
    · refine ⟨-1, b, M, M, ?_, ?_, Inv_w h (by omega)⟩
      · cases b
        · refine i_aload_n rfl rfl ?_
          refine i_getr rfl rfl rfl rfl (by decide) rfl ?_
          -- at 4
          refine i_call (T := (34, zp_34)) rfl rfl (c_isStopped (Or.inl a1)) rfl rfl rfl rfl rfl rfl rfl ?_
          try dsimp only
          show irun none zp_6 7 _ (iI (M 1 4) :: _) _ _ 0 0 _
          refine i_if_eq_t rfl (by first | omega | assumption) ?_
          refine i_aload_n rfl rfl ?_
          refine i_getr (p2 := 36) rfl rfl rfl rfl (by decide) rfl ?_
          refine i_iload_n rfl rfl ?_
          refine i_iload_n rfl rfl ?_
          -- at 19
          refine i_call (T := (57, zp_57)) rfl rfl (hfc) rfl rfl rfl rfl rfl rfl rfl ?_
          try dsimp only
          show irun none zp_6 22 _ (iI (fnd (M (pI false + 1)) name ver n n) :: _) _ _ 0 0 _
          refine i_istore_n rfl (Nat.le_of_ble_eq_true rfl) rfl ?_
          refine i_iload_n rfl rfl ?_
          refine i_if_ge_f rfl (by first | omega | assumption) ?_
          refine i_iconst (n := -1) rfl (by unfold iR; omega) ?_
          -- at 28
          exact i_ireturn rfl rfl
        · refine i_aload_n rfl rfl ?_
          refine i_getr rfl rfl rfl rfl (by decide) rfl ?_
          -- at 4
          refine i_call (T := (34, zp_34)) rfl rfl (c_isStopped (Or.inl a1)) rfl rfl rfl rfl rfl rfl rfl ?_
          try dsimp only
          show irun none zp_6 7 _ (iI (M 1 4) :: _) _ _ 0 0 _
          refine i_if_eq_t rfl (by first | omega | assumption) ?_
          refine i_aload_n rfl rfl ?_
          refine i_getr (p2 := 38) rfl rfl rfl rfl (by decide) rfl ?_
          refine i_iload_n rfl rfl ?_
          refine i_iload_n rfl rfl ?_
          -- at 19
          refine i_call (T := (57, zp_57)) rfl rfl (hfc) rfl rfl rfl rfl rfl rfl rfl ?_
          try dsimp only
          show irun none zp_6 22 _ (iI (fnd (M (pI true + 1)) name ver n n) :: _) _ _ 0 0 _
          refine i_istore_n rfl (Nat.le_of_ble_eq_true rfl) rfl ?_
          refine i_iload_n rfl rfl ?_
          refine i_if_ge_f rfl (by first | omega | assumption) ?_
          refine i_iconst (n := -1) rfl (by unfold iR; omega) ?_
          -- at 28
          exact i_ireturn rfl rfl
      · refine i_aload_n rfl rfl ?_
        refine i_getf rfl rfl rfl rfl (by decide) ?_
        refine i_if_eq_t rfl (by first | omega | assumption) ?_
        refine i_aload_n rfl rfl ?_
        refine i_iload_n rfl rfl ?_
        refine i_iload_n rfl rfl ?_
        -- at 13
        refine i_call (T := (146, zp_146)) rfl rfl (hfd M rfl) rfl rfl rfl rfl rfl rfl rfl ?_
        try dsimp only
        show irun none zp_154 16 _ (iI (fnd (M (pI b + 1)) name ver n n) :: _) _ _ 0 0 _
        refine i_istore_n rfl (Nat.le_of_ble_eq_true rfl) rfl ?_
        refine i_iload_n rfl rfl ?_
        refine i_if_ge_f rfl (by first | omega | assumption) ?_
        refine i_iconst (n := -1) rfl (by unfold iR; omega) ?_
        -- at 22
        exact i_ireturn rfl rfl
    · obtain ⟨k, ek⟩ := Int.eq_ofNat_of_zero_le (show 0 ≤ fnd (M (pI b + 1)) name ver n n by omega)
      rw [ek] at hb hfc hfd
      have hkn : k < n := by omega
      obtain ⟨t1, t2, t3, t4, t5, t6, t7, t8⟩ := e3 k (by omega)
      obtain ⟨first, ef⟩ := Int.eq_ofNat_of_zero_le (show 0 ≤ M (pI b + 1) (7 * k + 2) by omega)
      obtain ⟨s, es⟩ := Int.eq_ofNat_of_zero_le (show 0 ≤ M (pI b + 1) (7 * k + 3) by omega)
      obtain ⟨bg, eb⟩ := Int.eq_ofNat_of_zero_le t6.1
      obtain ⟨sz, ez⟩ := Int.eq_ofNat_of_zero_le t7.1
      have w2 := c_word (b := b) (M := M) (p := pI b) (k := k) (u := 2) (pI_or b) (by omega) (by decide)
      have w3 := c_word (b := b) (M := M) (p := pI b) (k := k) (u := 3) (pI_or b) (by omega) (by decide)
      have w4 := c_word (b := b) (M := M) (p := pI b) (k := k) (u := 4) (pI_or b) (by omega) (by decide)
      have w5 := c_word (b := b) (M := M) (p := pI b) (k := k) (u := 5) (pI_or b) (by omega) (by decide)
      rw [ef] at w2
      rw [es] at w3
      rw [eb] at w4
      rw [ez] at w5
      obtain ⟨M1, h1, f1, g1⟩ := c_dblock (b := b) (M := M) (first := first) (s := s) (by omega) (by omega) (by omega) hf j3
      rw [e] at h1 g1
      -- the reference's words
      have v2 := e2 (7 * k + 2) (by omega)
      have v3 := e2 (7 * k + 3) (by omega)
      have v4 := e2 (7 * k + 4) (by omega)
      have v5 := e2 (7 * k + 5) (by omega)
      rw [ef] at v2
      rw [es] at v3
      rw [eb] at v4
      rw [ez] at v5
      have E2 : (1 + 7 * (k : Int) + 2).toNat = 1 + (7 * k + 2) := by omega
      have E3 : (1 + 7 * (k : Int) + 3).toNat = 1 + (7 * k + 3) := by omega
      have E4 : (1 + 7 * (k : Int) + 4).toNat = 1 + (7 * k + 4) := by omega
      have E5 : (1 + 7 * (k : Int) + 5).toNat = 1 + (7 * k + 5) := by omega
      have hX : ∀ q, irun none zp_6 73 [some (iP 0), some (iI name), some (iI ver), some (iI (k : Int)), some (iI (bg : Int)), some (iI (sz : Int))] [iI (ob (blk (M 41) first s))] (SH b) M1 0 0 q → irun none zp_6 0 (i_ent [iP 0, iI name, iI ver] 6) [] (SH b) M 0 0 q := by
        intro q hq
        cases b
        · refine i_aload_n rfl rfl ?_
          refine i_getr rfl rfl rfl rfl (by decide) rfl ?_
          -- at 4
          refine i_call (T := (34, zp_34)) rfl rfl (c_isStopped (Or.inl a1)) rfl rfl rfl rfl rfl rfl rfl ?_
          try dsimp only
          show irun none zp_6 7 _ (iI (M 1 4) :: _) _ _ 0 0 _
          refine i_if_eq_t rfl (by first | omega | assumption) ?_
          refine i_aload_n rfl rfl ?_
          refine i_getr (p2 := 36) rfl rfl rfl rfl (by decide) rfl ?_
          refine i_iload_n rfl rfl ?_
          refine i_iload_n rfl rfl ?_
          -- at 19
          refine i_call (T := (57, zp_57)) rfl rfl (hfc) rfl rfl rfl rfl rfl rfl rfl ?_
          try dsimp only
          show irun none zp_6 22 _ (iI ((k : Int)) :: _) _ _ 0 0 _
          refine i_istore_n rfl (Nat.le_of_ble_eq_true rfl) rfl ?_
          refine i_iload_n rfl rfl ?_
          refine i_if_ge_t rfl (by first | omega | assumption) ?_
          refine i_aload_n rfl rfl ?_
          refine i_getr (p2 := 36) rfl rfl rfl rfl (by decide) rfl ?_
          refine i_iload_n rfl rfl ?_
          refine i_iconst (n := 4) rfl (by unfold iR; omega) ?_
          -- at 35
          refine i_call (T := (55, zp_55)) rfl rfl (w4) rfl rfl rfl rfl rfl rfl rfl ?_
          try dsimp only
          show irun none zp_6 38 _ (iI ((bg : Int)) :: _) _ _ 0 0 _
          refine i_istore rfl (Nat.le_of_ble_eq_true rfl) rfl ?_
          refine i_aload_n rfl rfl ?_
          refine i_getr (p2 := 36) rfl rfl rfl rfl (by decide) rfl ?_
          refine i_iload_n rfl rfl ?_
          refine i_iconst (n := 5) rfl (by unfold iR; omega) ?_
          -- at 46
          refine i_call (T := (55, zp_55)) rfl rfl (w5) rfl rfl rfl rfl rfl rfl rfl ?_
          try dsimp only
          show irun none zp_6 49 _ (iI ((sz : Int)) :: _) _ _ 0 0 _
          refine i_istore rfl (Nat.le_of_ble_eq_true rfl) rfl ?_
          refine i_aload_n rfl rfl ?_
          refine i_aload_n rfl rfl ?_
          refine i_getr (p2 := 36) rfl rfl rfl rfl (by decide) rfl ?_
          refine i_iload_n rfl rfl ?_
          refine i_iconst (n := 2) rfl (by unfold iR; omega) ?_
          -- at 58
          refine i_call (T := (55, zp_55)) rfl rfl (w2) rfl rfl rfl rfl rfl rfl rfl ?_
          try dsimp only
          show irun none zp_6 61 _ (iI ((first : Int)) :: _) _ _ 0 0 _
          refine i_aload_n rfl rfl ?_
          refine i_getr (p2 := 36) rfl rfl rfl rfl (by decide) rfl ?_
          refine i_iload_n rfl rfl ?_
          refine i_iconst (n := 3) rfl (by unfold iR; omega) ?_
          -- at 67
          refine i_call (T := (55, zp_55)) rfl rfl (w3) rfl rfl rfl rfl rfl rfl rfl ?_
          try dsimp only
          show irun none zp_6 70 _ (iI ((s : Int)) :: _) _ _ 0 0 _
          refine i_call (T := (21, zp_21)) rfl rfl (h1) rfl rfl rfl rfl rfl rfl rfl ?_
          try dsimp only
          show irun none zp_6 73 _ (iI (ob (blk (M 41) first s)) :: _) _ _ 0 0 _
          exact hq
        · refine i_aload_n rfl rfl ?_
          refine i_getr rfl rfl rfl rfl (by decide) rfl ?_
          -- at 4
          refine i_call (T := (34, zp_34)) rfl rfl (c_isStopped (Or.inl a1)) rfl rfl rfl rfl rfl rfl rfl ?_
          try dsimp only
          show irun none zp_6 7 _ (iI (M 1 4) :: _) _ _ 0 0 _
          refine i_if_eq_t rfl (by first | omega | assumption) ?_
          refine i_aload_n rfl rfl ?_
          refine i_getr (p2 := 38) rfl rfl rfl rfl (by decide) rfl ?_
          refine i_iload_n rfl rfl ?_
          refine i_iload_n rfl rfl ?_
          -- at 19
          refine i_call (T := (57, zp_57)) rfl rfl (hfc) rfl rfl rfl rfl rfl rfl rfl ?_
          try dsimp only
          show irun none zp_6 22 _ (iI ((k : Int)) :: _) _ _ 0 0 _
          refine i_istore_n rfl (Nat.le_of_ble_eq_true rfl) rfl ?_
          refine i_iload_n rfl rfl ?_
          refine i_if_ge_t rfl (by first | omega | assumption) ?_
          refine i_aload_n rfl rfl ?_
          refine i_getr (p2 := 38) rfl rfl rfl rfl (by decide) rfl ?_
          refine i_iload_n rfl rfl ?_
          refine i_iconst (n := 4) rfl (by unfold iR; omega) ?_
          -- at 35
          refine i_call (T := (55, zp_55)) rfl rfl (w4) rfl rfl rfl rfl rfl rfl rfl ?_
          try dsimp only
          show irun none zp_6 38 _ (iI ((bg : Int)) :: _) _ _ 0 0 _
          refine i_istore rfl (Nat.le_of_ble_eq_true rfl) rfl ?_
          refine i_aload_n rfl rfl ?_
          refine i_getr (p2 := 38) rfl rfl rfl rfl (by decide) rfl ?_
          refine i_iload_n rfl rfl ?_
          refine i_iconst (n := 5) rfl (by unfold iR; omega) ?_
          -- at 46
          refine i_call (T := (55, zp_55)) rfl rfl (w5) rfl rfl rfl rfl rfl rfl rfl ?_
          try dsimp only
          show irun none zp_6 49 _ (iI ((sz : Int)) :: _) _ _ 0 0 _
          refine i_istore rfl (Nat.le_of_ble_eq_true rfl) rfl ?_
          refine i_aload_n rfl rfl ?_
          refine i_aload_n rfl rfl ?_
          refine i_getr (p2 := 38) rfl rfl rfl rfl (by decide) rfl ?_
          refine i_iload_n rfl rfl ?_
          refine i_iconst (n := 2) rfl (by unfold iR; omega) ?_
          -- at 58
          refine i_call (T := (55, zp_55)) rfl rfl (w2) rfl rfl rfl rfl rfl rfl rfl ?_
          try dsimp only
          show irun none zp_6 61 _ (iI ((first : Int)) :: _) _ _ 0 0 _
          refine i_aload_n rfl rfl ?_
          refine i_getr (p2 := 38) rfl rfl rfl rfl (by decide) rfl ?_
          refine i_iload_n rfl rfl ?_
          refine i_iconst (n := 3) rfl (by unfold iR; omega) ?_
          -- at 67
          refine i_call (T := (55, zp_55)) rfl rfl (w3) rfl rfl rfl rfl rfl rfl rfl ?_
          try dsimp only
          show irun none zp_6 70 _ (iI ((s : Int)) :: _) _ _ 0 0 _
          refine i_call (T := (21, zp_21)) rfl rfl (h1) rfl rfl rfl rfl rfl rfl rfl ?_
          try dsimp only
          show irun none zp_6 73 _ (iI (ob (blk (M 41) first s)) :: _) _ _ 0 0 _
          exact hq
      -- the reference's load and decode
      have hD : ∀ N : iM, N 41 = M 41 → N 42 = M 42 → N 40 = M 40 → (lkN (M 41) first s = 0 ∧ ∃ N1, (∀ q, irun none zp_154 95 [some (iP 40), some (iI name), some (iI ver), some (iI (k : Int)), some (iI (1 + 7 * (k : Int))), some (iI (s : Int)), none] [] (SH b) N1 0 0 q → irun none zp_154 0 (i_ent [iP 40, iI name, iI ver] 7) [] (SH b) N 0 0 q) ∧ Fr [40, 51, 53, 56, 57, 60, 61] N N1 ∧ G40 N N1) ∨ (lkN (M 41) first s = 1 ∧ ∃ N1, (∀ q, irun none zp_154 66 [some (iP 40), some (iI name), some (iI ver), some (iI (k : Int)), some (iI (1 + 7 * (k : Int))), some (iI (s : Int)), none] [iI (ob (unp (Rd (M 41) first) (11 * (s : Int))))] (SH b) N1 0 0 q → irun none zp_154 0 (i_ent [iP 40, iI name, iI ver] 7) [] (SH b) N 0 0 q) ∧ Fr [40, 51, 53, 56, 57, 60, 61] N N1 ∧ G40 N N1 ∧ ∀ R, unp (Rd (M 41) first) (11 * (s : Int)) = some R → N1 40 38 = Rd (M 41) first 1 ∧ ∀ j : Nat, (j : Int) < Rd (M 41) first 1 → N1 61 j = R j) := by
        intro N h41 h42 h40
        obtain ⟨N1, p1, p2, p3⟩ := d_loadF (b := b) (M := N) (first := first) (cnt := s) (by omega) (by omega) (by rw [h41]; exact j1)
        rw [h41] at p1 p3
        have b1 : N 40 1 = 0 := by rw [h40]; exact a2.trans a1
        have hpre : ∀ q, irun none zp_154 57 [some (iP 40), some (iI name), some (iI ver), some (iI (k : Int)), some (iI (1 + 7 * (k : Int))), some (iI (s : Int)), none] [iI (lkN (M 41) first s)] (SH b) N1 0 0 q → irun none zp_154 0 (i_ent [iP 40, iI name, iI ver] 7) [] (SH b) N 0 0 q := by
          intro q hq
          refine i_aload_n rfl rfl ?_
          refine i_getf rfl rfl rfl rfl (by decide) ?_
          refine i_if_eq_t rfl (by first | omega | assumption) ?_
          refine i_aload_n rfl rfl ?_
          refine i_iload_n rfl rfl ?_
          refine i_iload_n rfl rfl ?_
          -- at 13
          refine i_call (T := (146, zp_146)) rfl rfl (hfd N h42) rfl rfl rfl rfl rfl rfl rfl ?_
          try dsimp only
          show irun none zp_154 16 _ (iI ((k : Int)) :: _) _ _ 0 0 _
          refine i_istore_n rfl (Nat.le_of_ble_eq_true rfl) rfl ?_
          refine i_iload_n rfl rfl ?_
          refine i_if_ge_t rfl (by first | omega | assumption) ?_
          refine i_iconst (n := 1) rfl (by unfold iR; omega) ?_
          refine i_bipush (n := 7) rfl (by unfold iR; omega) (by decide) ?_
          refine i_iload_n rfl rfl ?_
          refine i_imul rfl (by unfold iR; omega) ?_
          refine i_iadd rfl (by unfold iR; omega) ?_
          refine i_istore rfl (Nat.le_of_ble_eq_true rfl) rfl ?_
          refine i_aload_n rfl rfl ?_
          refine i_getr rfl rfl rfl rfl (by decide) rfl ?_
          refine i_iload rfl rfl ?_
          refine i_iconst (n := 3) rfl (by unfold iR; omega) ?_
          refine i_iadd rfl (by unfold iR; omega) ?_
          refine i_iald rfl rfl (by first | omega | assumption) (by first | omega | assumption) (by decide) ?_
          -- at 40
          rw [E3, h42, v3]
          refine i_istore rfl (Nat.le_of_ble_eq_true rfl) rfl ?_
          refine i_aload_n rfl rfl ?_
          refine i_aload_n rfl rfl ?_
          refine i_getr rfl rfl rfl rfl (by decide) rfl ?_
          refine i_iload rfl rfl ?_
          refine i_iconst (n := 2) rfl (by unfold iR; omega) ?_
          refine i_iadd rfl (by unfold iR; omega) ?_
          refine i_iald rfl rfl (by first | omega | assumption) (by first | omega | assumption) (by decide) ?_
          -- at 52
          rw [E2, h42, v2]
          refine i_iload rfl rfl ?_
          -- at 54
          refine i_call (T := (138, zp_138)) rfl rfl (p1) rfl rfl rfl rfl rfl rfl rfl ?_
          try dsimp only
          show irun none zp_154 57 _ (iI (lkN (M 41) first s) :: _) _ _ 0 0 _
          exact hq
        rcases lkN_01 (M 41) first s with hl | hl
        · left
          refine ⟨hl, N1, fun q hq => hpre q ?_, Fr_t (Fr_r _ _) p2 (by decide), fun x _ => by rw [p2 40 (by decide)]⟩
          rw [hl]
          refine i_if_eq_t rfl (by first | omega | assumption) ?_
          -- at 95
          exact hq
        · right
          have p3 := p3 hl
          obtain ⟨N2, u1, u2, u3, u4⟩ := d_decode (b := b) (M := N1) (T := Rd (M 41) first) (s := s) (by omega) (by omega) (fun j hj => ⟨p3 j hj, rd_b j1 (by omega) (by omega)⟩)
          refine ⟨hl, N2, fun q hq => hpre q ?_, Fr_t (Fr_t (Fr_r _ _) p2 (by decide)) u2 (by decide), G40_t (fun x _ => by rw [p2 40 (by decide)]) u3, u4⟩
          rw [hl]
          refine i_if_eq_f rfl (by first | omega | assumption) ?_
          refine i_aload_n rfl rfl ?_
          refine i_iload rfl rfl ?_
          -- at 63
          refine i_call (T := (137, zp_137)) rfl rfl (u1) rfl rfl rfl rfl rfl rfl rfl ?_
          try dsimp only
          show irun none zp_154 66 _ (iI (ob (unp (Rd (M 41) first) (11 * (s : Int)))) :: _) _ _ 0 0 _
          exact hq
      rcases hD M1 (f1 41 (by decide)) (f1 42 (by decide)) (f1 40 (by decide)) with ⟨hl, N1, d1, d2, d3⟩ | ⟨hl, N1, d1, d2, d3, d4⟩
      · have ebk : blk (M 41) first s = none := by unfold blk; rw [if_neg (by omega)]
        rw [ebk] at hX
        refine ⟨-2, b, M1, N1, hX _ ?_, d1 _ ?_, Inv_w (Inv_k h (fun c hc => ?_) ?_ ?_ ?_) (by omega)⟩
        · show irun none zp_6 73 _ (iI 0 :: _) _ _ 0 0 _
          refine i_if_eq_t rfl (by first | omega | assumption) ?_
          refine i_bipush (n := -2) rfl (by unfold iR; omega) (by decide) ?_
          -- at 93
          exact i_ireturn rfl rfl
        · refine i_bipush (n := -2) rfl (by unfold iR; omega) (by decide) ?_
          -- at 97
          exact i_ireturn rfl rfl
        · rw [d2 c (by revert hc; decide +revert), f1 c (by revert hc; decide +revert)]
        · rw [d2 0 (by decide), f1 0 (by decide)]
        · intro x hx
          rw [d3 x (by omega), f1 40 (by decide)]
        · unfold I8
          rw [d3 41 (by decide), f1 40 (by decide), d2 0 (by decide), f1 0 (by decide), d2 62 (by decide), f1 62 (by decide), d2 35 (by decide), f1 35 (by decide)]
          exact ⟨⟨l1, l2, l3⟩, l4⟩
      · have ebk : blk (M 41) first s = unp (Rd (M 41) first) (11 * (s : Int)) := by unfold blk; rw [if_pos hl]
        rw [ebk] at hX g1
        have hbad : ∀ (hx : ∀ q, irun none zp_6 91 [some (iP 0), some (iI name), some (iI ver), some (iI (k : Int)), some (iI (bg : Int)), some (iI (sz : Int))] [] (SH b) M1 0 0 q → irun none zp_6 0 (i_ent [iP 0, iI name, iI ver] 6) [] (SH b) M 0 0 q) (hd : ∀ q, irun none zp_154 95 [some (iP 40), some (iI name), some (iI ver), some (iI (k : Int)), some (iI (1 + 7 * (k : Int))), some (iI (s : Int)), none] [] (SH b) N1 0 0 q → irun none zp_154 0 (i_ent [iP 40, iI name, iI ver] 7) [] (SH b) M1 0 0 q), Op w b M zp_6 zp_154 [iI name, iI ver] := by
          intro hx hd
          refine ⟨-2, b, M1, N1, hx _ ?_, hd _ ?_, Inv_w (Inv_k h (fun c hc => ?_) ?_ ?_ ?_) (by omega)⟩
          · refine i_bipush (n := -2) rfl (by unfold iR; omega) (by decide) ?_
            -- at 93
            exact i_ireturn rfl rfl
          · refine i_bipush (n := -2) rfl (by unfold iR; omega) (by decide) ?_
            -- at 97
            exact i_ireturn rfl rfl
          · rw [d2 c (by revert hc; decide +revert), f1 c (by revert hc; decide +revert)]
          · rw [d2 0 (by decide), f1 0 (by decide)]
          · intro x hx
            rw [d3 x (by omega), f1 40 (by decide)]
          · unfold I8
            rw [d3 41 (by decide), f1 40 (by decide), d2 0 (by decide), f1 0 (by decide), d2 62 (by decide), f1 62 (by decide), d2 35 (by decide), f1 35 (by decide)]
            exact ⟨⟨l1, l2, l3⟩, l4⟩
        rcases hu : unp (Rd (M 41) first) (11 * (s : Int)) with _ | R
        · rw [hu] at hX d1
          refine hbad (fun q hq => hX q ?_) (fun q hq => d1 q ?_)
          · show irun none zp_6 73 _ (iI 0 :: _) _ _ 0 0 _
            refine i_if_eq_t rfl (by first | omega | assumption) ?_
            -- at 91
            exact hq
          · show irun none zp_154 66 _ (iI 0 :: _) _ _ 0 0 _
            refine i_if_eq_t rfl (by first | omega | assumption) ?_
            -- at 95
            exact hq
        · rw [hu] at hX d1 g1 d4
          obtain ⟨g2, g3⟩ := g1 R rfl
          obtain ⟨g4, g5⟩ := d4 R rfl
          have n42 : N1 42 = M 42 := (d2 42 (by decide)).trans (f1 42 (by decide))
          have hb1 := rd_b (s := first) (k := 1) j1 (by omega) (by decide)
          have hb1 : 0 ≤ Rd (M 41) first 1 ∧ Rd (M 41) first 1 < 256 := hb1
          by_cases hle : (bg : Int) + sz ≤ Rd (M 41) first 1
          · refine ⟨(sz : Int), b, i_st (i_cp M1 31 bg 35 0 sz) 0 7 (sz : Int), ?_⟩
            obtain ⟨M3, hM3⟩ : ∃ M3, M3 = i_st (i_cp M1 31 bg 35 0 sz) 0 7 (sz : Int) := ⟨_, rfl⟩
            have f3 : Fr [0, 4, 11, 18, 19, 20, 21, 24, 25, 26, 28, 29, 31, 34, 35] M M3 := by
              rw [hM3]
              exact Fr_st (Fr_cp (Fr_t (Fr_r _ _) f1 (by decide)) (by decide)) (by decide)
            rw [← hM3]
            have hXr : irun none zp_6 0 (i_ent [iP 0, iI name, iI ver] 6) [] (SH b) M 0 0 (some (sz : Int), SH b, M3) := by
              rw [hM3]
              refine hX _ ?_
              show irun none zp_6 73 _ (iI 1 :: _) _ _ 0 0 _
              refine i_if_eq_f rfl (by first | omega | assumption) ?_
              refine i_iload rfl rfl ?_
              refine i_iload rfl rfl ?_
              refine i_iadd rfl (by unfold iR; omega) ?_
              refine i_aload_n rfl rfl ?_
              refine i_getr rfl rfl rfl rfl (by decide) rfl ?_
              refine i_getf rfl rfl rfl rfl (by decide) ?_
              -- at 88
              rw [g2]
              refine i_icmp_le_t rfl (by first | omega | assumption) ?_
              refine i_aload_n rfl rfl ?_
              refine i_getr rfl rfl rfl rfl (by decide) rfl ?_
              refine i_getr rfl rfl rfl rfl (by decide) rfl ?_
              refine i_iload rfl rfl ?_
              refine i_aload_n rfl rfl ?_
              refine i_getr rfl rfl rfl rfl (by decide) rfl ?_
              refine i_iconst (n := 0) rfl (by unfold iR; omega) ?_
              refine i_iload rfl rfl ?_
              -- at 110
              refine i_copy (n0 := 256) (n1 := 24) rfl rfl rfl rfl (by omega) (by omega) (by omega) (by omega) (by omega) (Nat.le_of_ble_eq_true rfl) ?_
              rw [show (sz : Int).toNat = sz by omega, show (bg : Int).toNat = bg by omega]
              refine i_aload_n rfl rfl ?_
              refine i_iload rfl rfl ?_
              refine i_puti rfl rfl rfl rfl ?_
              refine i_iload rfl rfl ?_
              -- at 121
              exact i_ireturn rfl rfl
            -- the reference's own run, from M3
            rcases hD M3 (f3 41 (by decide)) (f3 42 (by decide)) (f3 40 (by decide)) with ⟨hl', -⟩ | ⟨-, K1, c1, c2, c3, c4⟩
            · omega
            · rw [hu] at c1 c4
              obtain ⟨c5, c6⟩ := c4 R rfl
              have k42 : K1 42 = M 42 := (c2 42 (by decide)).trans (f3 42 (by decide))
              have cplK : ∀ (c i : Nat) (q : Option Int × List zS × iM), i + c = sz → irun none zp_154 114 [some (iP 40), some (iI name), some (iI ver), some (iI (k : Int)), some (iI (1 + 7 * (k : Int))), some (iI (s : Int)), some (iI (sz : Int))] [] (SH b) (va_up (i_st K1 40 41 (sz : Int)) 62 (fun j => if j < sz then K1 61 (bg + j) else K1 62 j)) 0 0 q → irun none zp_154 114 [some (iP 40), some (iI name), some (iI ver), some (iI (k : Int)), some (iI (1 + 7 * (k : Int))), some (iI (s : Int)), some (iI (i : Int))] [] (SH b) (va_up (i_st K1 40 41 (sz : Int)) 62 (fun j => if j < i then K1 61 (bg + j) else K1 62 j)) 0 0 q := by
                intro c
                induction c with
                | zero =>
                  intro i q hi hq
                  obtain rfl : i = sz := by omega
                  exact hq
                | succ c ih =>
                  intro i q hi hq
                  have hnx := ih (i + 1) q (by omega) hq
                  refine i_iload rfl rfl ?_
                  refine i_aload_n rfl rfl ?_
                  refine i_getf rfl rfl rfl rfl (by decide) ?_
                  -- at 120
                  show irun none zp_154 120 _ (iI (sz : Int) :: _) _ _ 0 0 _
                  refine i_icmp_ge_f rfl (by first | omega | assumption) ?_
                  refine i_aload_n rfl rfl ?_
                  refine i_getr rfl rfl rfl rfl (by decide) rfl ?_
                  refine i_iload rfl rfl ?_
                  refine i_aload_n rfl rfl ?_
                  refine i_getr rfl rfl rfl rfl (by decide) rfl ?_
                  refine i_aload_n rfl rfl ?_
                  refine i_getr rfl rfl rfl rfl (by decide) rfl ?_
                  refine i_iload rfl rfl ?_
                  refine i_iconst (n := 4) rfl (by unfold iR; omega) ?_
                  refine i_iadd rfl (by unfold iR; omega) ?_
                  refine i_iald rfl rfl (by first | omega | assumption) (by first | omega | assumption) (by decide) ?_
                  -- at 142
                  rw [E4]
                  show irun none zp_154 142 _ (iI (K1 42 (1 + (7 * k + 4))) :: _) _ _ 0 0 _
                  rw [k42, v4]
                  refine i_iload rfl rfl ?_
                  refine i_iadd rfl (by unfold iR; omega) ?_
                  refine i_iald rfl rfl (by first | omega | assumption) (by first | omega | assumption) (by decide) ?_
                  -- at 146
                  rw [show ((bg : Int) + (i : Int)).toNat = bg + i by omega]
                  show irun none zp_154 146 _ (iI (K1 61 (bg + i)) :: _) _ _ 0 0 _
                  refine i_iast rfl rfl (by first | omega | assumption) (by first | omega | assumption) ?_
                  refine i_iinc rfl rfl (by unfold iR; omega) (Nat.le_of_ble_eq_true rfl) rfl ?_
                  refine i_goto rfl ?_
                  -- at 114
                  rw [st_up (g := fun j => if j < i + 1 then K1 61 (bg + j) else K1 62 j)]
                  · exact hnx
                  · rw [show (i : Int).toNat = i by omega]
                    exact up_step (f := fun j => K1 61 (bg + j)) rfl
              refine ⟨va_up (i_st K1 40 41 (sz : Int)) 62 (fun j => if j < sz then K1 61 (bg + j) else K1 62 j), hXr, c1 _ ?_, Inv_w (Inv_k h (fun c hc => ?_) ?_ ?_ ?_) (by omega)⟩
              · have cp0 := cplK sz 0
                rw [up_id (i_st K1 40 41 (sz : Int)) 62 (f := fun j => if j < 0 then K1 61 (bg + j) else K1 62 j) (by
                  funext j
                  rw [if_neg (by omega)]
                  rfl)] at cp0
                show irun none zp_154 66 _ (iI 1 :: _) _ _ 0 0 _
                refine i_if_eq_f rfl (by first | omega | assumption) ?_
                refine i_aload_n rfl rfl ?_
                refine i_getr rfl rfl rfl rfl (by decide) rfl ?_
                refine i_iload rfl rfl ?_
                refine i_iconst (n := 4) rfl (by unfold iR; omega) ?_
                refine i_iadd rfl (by unfold iR; omega) ?_
                refine i_iald rfl rfl (by first | omega | assumption) (by first | omega | assumption) (by decide) ?_
                -- at 78
                rw [E4, k42, v4]
                refine i_aload_n rfl rfl ?_
                refine i_getr rfl rfl rfl rfl (by decide) rfl ?_
                refine i_iload rfl rfl ?_
                refine i_iconst (n := 5) rfl (by unfold iR; omega) ?_
                refine i_iadd rfl (by unfold iR; omega) ?_
                refine i_iald rfl rfl (by first | omega | assumption) (by first | omega | assumption) (by decide) ?_
                -- at 87
                rw [E5, k42, v5]
                refine i_iadd rfl (by unfold iR; omega) ?_
                refine i_aload_n rfl rfl ?_
                refine i_getf rfl rfl rfl rfl (by decide) ?_
                -- at 92
                rw [c5]
                refine i_icmp_le_t rfl (by first | omega | assumption) ?_
                refine i_aload_n rfl rfl ?_
                refine i_aload_n rfl rfl ?_
                refine i_getr rfl rfl rfl rfl (by decide) rfl ?_
                refine i_iload rfl rfl ?_
                refine i_iconst (n := 5) rfl (by unfold iR; omega) ?_
                refine i_iadd rfl (by unfold iR; omega) ?_
                refine i_iald rfl rfl (by first | omega | assumption) (by first | omega | assumption) (by decide) ?_
                -- at 108
                rw [E5, k42, v5]
                refine i_puti rfl rfl rfl rfl ?_
                refine i_iconst (n := 0) rfl (by unfold iR; omega) ?_
                refine i_istore rfl (Nat.le_of_ble_eq_true rfl) rfl ?_
                -- at 114
                refine cp0 _ (by omega) ?_
                refine i_iload rfl rfl ?_
                refine i_aload_n rfl rfl ?_
                refine i_getf rfl rfl rfl rfl (by decide) ?_
                -- at 120
                show irun none zp_154 120 _ (iI (sz : Int) :: _) _ _ 0 0 _
                refine i_icmp_ge_t rfl (by first | omega | assumption) ?_
                refine i_aload_n rfl rfl ?_
                refine i_getf rfl rfl rfl rfl (by decide) ?_
                -- at 157
                show irun none zp_154 157 _ (iI (sz : Int) :: _) _ _ 0 0 _
                exact i_ireturn rfl rfl
              · have hne : c ≠ 62 ∧ c ≠ 40 := by revert hc; decide +revert
                rw [up_n hne.1]
                show va_up K1 40 _ c = _
                rw [up_n hne.2]
                clear hne
                rw [c2 c (by revert hc; decide +revert), f3 c (by revert hc; decide +revert)]
              · show K1 0 8 = _
                rw [c2 0 (by decide), hM3]
                show M1 0 8 = _
                rw [f1 0 (by decide)]
              · intro x hx
                show va_up (K1 40) 41 _ x = _
                rw [up_n (by omega), c3 x (by omega), f3 40 (by decide)]
              · have q07 : K1 0 7 = (sz : Int) := by
                  rw [c2 0 (by decide), hM3]
                  rfl
                refine ⟨⟨?_, ?_, ?_⟩, fun j hj => ?_⟩
                · show (sz : Int) = K1 0 7
                  exact q07.symm
                · show 0 ≤ K1 0 7
                  omega
                · show K1 0 7 ≤ 24
                  omega
                · have hj : (j : Int) < K1 0 7 := hj
                  rw [q07] at hj
                  show (if j < sz then K1 61 (bg + j) else K1 62 j) = K1 35 j
                  rw [if_pos (by omega), c6 (bg + j) (by omega), c2 35 (by decide), hM3]
                  show _ = if 0 ≤ j ∧ j < 0 + sz then M1 31 (bg + (j - 0)) else _
                  rw [if_pos (by omega), g3 _ (by omega)]
                  rfl
          · refine hbad (fun q hq => hX q ?_) (fun q hq => d1 q ?_)
            · show irun none zp_6 73 _ (iI 1 :: _) _ _ 0 0 _
              refine i_if_eq_f rfl (by first | omega | assumption) ?_
              refine i_iload rfl rfl ?_
              refine i_iload rfl rfl ?_
              refine i_iadd rfl (by unfold iR; omega) ?_
              refine i_aload_n rfl rfl ?_
              refine i_getr rfl rfl rfl rfl (by decide) rfl ?_
              refine i_getf rfl rfl rfl rfl (by decide) ?_
              -- at 88
              rw [g2]
              refine i_icmp_le_f rfl (by first | omega | assumption) ?_
              -- at 91
              exact hq
            · show irun none zp_154 66 _ (iI 1 :: _) _ _ 0 0 _
              refine i_if_eq_f rfl (by first | omega | assumption) ?_
              refine i_aload_n rfl rfl ?_
              refine i_getr rfl rfl rfl rfl (by decide) rfl ?_
              refine i_iload rfl rfl ?_
              refine i_iconst (n := 4) rfl (by unfold iR; omega) ?_
              refine i_iadd rfl (by unfold iR; omega) ?_
              refine i_iald rfl rfl (by first | omega | assumption) (by first | omega | assumption) (by decide) ?_
              -- at 78
              rw [E4, n42, v4]
              refine i_aload_n rfl rfl ?_
              refine i_getr rfl rfl rfl rfl (by decide) rfl ?_
              refine i_iload rfl rfl ?_
              refine i_iconst (n := 5) rfl (by unfold iR; omega) ?_
              refine i_iadd rfl (by unfold iR; omega) ?_
              refine i_iald rfl rfl (by first | omega | assumption) (by first | omega | assumption) (by decide) ?_
              -- at 87
              rw [E5, n42, v5]
              refine i_iadd rfl (by unfold iR; omega) ?_
              refine i_aload_n rfl rfl ?_
              refine i_getf rfl rfl rfl rfl (by decide) ?_
              -- at 92
              rw [g4]
              refine i_icmp_le_f rfl (by first | omega | assumption) ?_
              -- at 95
              exact hq
  · refine ⟨-9, b, M, M, ?_, ?_, Inv_w h (by omega)⟩
    · refine i_aload_n rfl rfl ?_
      refine i_getr rfl rfl rfl rfl (by decide) rfl ?_
      -- at 4
      refine i_call (T := (34, zp_34)) rfl rfl (c_isStopped (Or.inr a1)) rfl rfl rfl rfl rfl rfl rfl ?_
      try dsimp only
      show irun none zp_6 7 _ (iI (M 1 4) :: _) _ _ 0 0 _
      refine i_if_eq_f rfl (by first | omega | assumption) ?_
      refine i_bipush (n := -9) rfl (by unfold iR; omega) (by decide) ?_
      -- at 12
      exact i_ireturn rfl rfl
    · refine i_aload_n rfl rfl ?_
      refine i_getf rfl rfl rfl rfl (by decide) ?_
      refine i_if_eq_f rfl (by first | omega | assumption) ?_
      refine i_bipush (n := -9) rfl (by unfold iR; omega) (by decide) ?_
      -- at 9
      exact i_ireturn rfl rfl
