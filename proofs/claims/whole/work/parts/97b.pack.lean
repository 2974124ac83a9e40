/-- the codecs' bits, the choice -/
noncomputable def eN (S : Nat → Int) (n : Nat) (c : Nat) : List Int := if c = 0 then eS S n else if c = 1 then me S n n 0 [] else if c = 2 then me (ds S) n n 0 [] else eP S n n
noncomputable def bc (S : Nat → Int) (n c : Nat) : Nat := ((eN S n c).length + 7) / 8
noncomputable def chs (S : Nat → Int) (n : Nat) : Nat → Nat × Nat
  | 0 => (0, 256)
  | c + 1 => if c = 3 ∧ n = 0 then chs S n c else if bc S n c < (chs S n c).2 then (c, bc S n c) else chs S n c
theorem me_len {S : Nat → Int} {n : Nat} : ∀ (c i : Nat) (l : List Int), (me S n c i l).length ≤ l.length + 9 * c := by
  intro c
  induction c with
  | zero => intro i l; exact Nat.le_refl _
  | succ c ih =>
    intro i l
    unfold me
    split
    · split
      · have := ih (i + fln S n i) (l ++ [1] ++ vb ((far S n i : Int) - 1) 4 ++ vb ((fln S n i : Int) - 2) 3)
        simp only [List.length_append, vb_len, List.length_cons, List.length_nil] at this
        omega
      · have := ih (i + 1) (l ++ [0] ++ vb (S i) 8)
        simp only [List.length_append, vb_len, List.length_cons, List.length_nil] at this
        omega
    · omega
theorem eN_len {S : Nat → Int} {n c : Nat} (hS : ∀ j, j < n → 0 ≤ S j ∧ S j < 256) (h96 : n ≤ 96) (h3 : ¬ (c = 3 ∧ n = 0)) (hc : c < 4) : (eN S n c).length ≤ 2048 := by
  unfold eN
  split
  · rw [eS_len]; omega
  · split
    · have := me_len (S := S) (n := n) n 0 []
      simp only [List.length_nil] at this
      omega
    · split
      · have := me_len (S := ds S) (n := n) n 0 []
        simp only [List.length_nil] at this
        omega
      · have h := eP_len hS h96 (by omega) n (Nat.le_refl _)
        have := (p_ok hS h96 (by omega)).2.1
        omega
theorem bc_0 {S : Nat → Int} {n : Nat} : bc S n 0 = n := by
  unfold bc eN
  rw [if_pos rfl, eS_len]
  omega
theorem chs_1 {S : Nat → Int} {n : Nat} (h96 : n ≤ 96) : chs S n 1 = (0, n) := by
  show (if (0 : Nat) = 3 ∧ n = 0 then _ else if bc S n 0 < 256 then (0, bc S n 0) else _) = _
  rw [if_neg (by omega), bc_0, if_pos (by omega)]
theorem chs_b {S : Nat → Int} {n : Nat} (h96 : n ≤ 96) : ∀ c, (chs S n (c + 1)).2 ≤ n ∧ (chs S n (c + 1)).1 ≤ c ∧ (chs S n (c + 1)).2 = bc S n (chs S n (c + 1)).1 ∧ ¬ ((chs S n (c + 1)).1 = 3 ∧ n = 0) := by
  intro c
  induction c with
  | zero => rw [chs_1 h96]; exact ⟨Nat.le_refl _, Nat.le_refl _, bc_0.symm, fun q => by cases q.1⟩
  | succ c ih =>
    show (if c + 1 = 3 ∧ n = 0 then _ else if bc S n (c + 1) < _ then (c + 1, bc S n (c + 1)) else _ : Nat × Nat).2 ≤ n ∧ (if c + 1 = 3 ∧ n = 0 then _ else if bc S n (c + 1) < _ then (c + 1, bc S n (c + 1)) else _ : Nat × Nat).1 ≤ c + 1 ∧ (if c + 1 = 3 ∧ n = 0 then _ else if bc S n (c + 1) < _ then (c + 1, bc S n (c + 1)) else _ : Nat × Nat).2 = bc S n (if c + 1 = 3 ∧ n = 0 then _ else if bc S n (c + 1) < _ then (c + 1, bc S n (c + 1)) else _ : Nat × Nat).1 ∧ ¬ ((if c + 1 = 3 ∧ n = 0 then _ else if bc S n (c + 1) < _ then (c + 1, bc S n (c + 1)) else _ : Nat × Nat).1 = 3 ∧ n = 0)
    by_cases h : c + 1 = 3 ∧ n = 0
    · rw [if_pos h]
      exact ⟨ih.1, by omega, ih.2.2⟩
    · rw [if_neg h]
      by_cases h2 : bc S n (c + 1) < (chs S n (c + 1)).2
      · rw [if_pos h2]
        exact ⟨by dsimp only; omega, Nat.le_refl _, rfl, h⟩
      · rw [if_neg h2]
        exact ⟨ih.1, by omega, ih.2.2⟩
set_option maxRecDepth 100000 in
theorem c_pack {b : Bool} {M : iM} {S : Nat → Int} {n : Nat} (hS : ∀ j, j < n → M 7 j = S j ∧ 0 ≤ S j ∧ S j < 256) (h96 : n ≤ 96) : ∃ M', irun none zp_106 0 (i_ent [iP 11, iP 7, iI (n : Int)] 5) [] (SH b) M 0 0 (none, SH b, M') ∧ Fr [11, 17, 18, 19, 20, 21, 22, 23, 24, 25, 26, 27, 28, 29, 30] M M' ∧ M' 30 0 = ((chs S n 4).1 : Int) ∧ M' 30 1 = (n : Int) ∧ M' 30 2 = ((chs S n 4).2 : Int) ∧ (∀ k, k < (chs S n 4).2 → M' 30 (3 + k) = pk (eN S n (chs S n 4).1) k) ∧ M' 11 4 = 3 + ((chs S n 4).2 : Int) ∧ ∀ k, k ≠ 4 → M' 11 k = M 11 k := by
  have enc : ∀ (c f : Nat) (M1 : iM), c < 4 → ¬ (c = 3 ∧ n = 0) → (∀ j, j < n → M1 7 j = S j ∧ 0 ≤ S j ∧ S j < 256) → BW M1 [] → ∃ M2, (∀ q, irun none zp_106 42 [some (iP 11), some (iP 7), some (iI (n : Int)), some (iI (f : Int)), some (iI (c : Int))] [iI 1] (SH b) M2 0 0 q → irun none zp_106 28 [some (iP 11), some (iP 7), some (iI (n : Int)), some (iI (f : Int)), some (iI (c : Int))] [iP 12] (SH b) M1 0 0 q) ∧ Fr [17, 18, 19, 20, 21, 22, 23, 24, 25, 26, 27, 28, 29] M1 M2 ∧ BW M2 (eN S n c) := by
    intro c f M1 hc hn0 hS1 hb
    have pre : ∀ (q : Option Int × List zS × iM) (p : Nat), z_at [some 13, some 14, some 15, some 18] c = some (some p) → irun none zp_106 37 [some (iP 11), some (iP 7), some (iI (n : Int)), some (iI (f : Int)), some (iI (c : Int))] [iP 28, iI (n : Int), iP 7, iP p] (SH b) M1 0 0 q → irun none zp_106 28 [some (iP 11), some (iP 7), some (iI (n : Int)), some (iI (f : Int)), some (iI (c : Int))] [iP 12] (SH b) M1 0 0 q := by
      intro q p hp hq
      refine i_iload rfl rfl ?_
      -- at 30
      refine i_aald (n := 4) rfl rfl (by omega) (by omega) (p2 := p) (by rw [show (c : Int).toNat = c by omega]; exact hp) ?_
      refine i_aload_n rfl rfl ?_
      refine i_iload_n rfl rfl ?_
      refine i_aload_n rfl rfl ?_
      refine i_getr rfl rfl rfl rfl (by decide) rfl ?_
      -- at 37
      exact hq
    rcases (show c = 0 ∨ c = 1 ∨ c = 2 ∨ c = 3 by omega) with h | h | h | h
    · subst h
      obtain ⟨M2, h2, f2, g2⟩ := c_stE (b := b) hS1 h96 hb
      refine ⟨M2, fun q hq => pre q 13 rfl ?_, Fr_t (Fr_r _ _) f2 (by decide), g2⟩
      refine i_call (T := (83, zp_83)) rfl rfl h2 rfl rfl rfl rfl rfl rfl rfl ?_
      exact hq
    · subst h
      obtain ⟨M2, h2, f2, g2⟩ := c_mtE (b := b) (p := 14) (t := 7) (sz := 96) rfl (by decide) (by decide) (by decide) h96 h96 hS1 hb
      refine ⟨M2, fun q hq => pre q 14 rfl ?_, Fr_t (Fr_r _ _) f2 (by decide), g2⟩
      refine i_call (T := (86, zp_86)) rfl rfl h2 rfl rfl rfl rfl rfl rfl rfl ?_
      exact hq
    · subst h
      obtain ⟨M2, h2, f2, g2⟩ := c_dfE (b := b) hS1 h96 hb
      refine ⟨M2, fun q hq => pre q 15 rfl ?_, Fr_t (Fr_r _ _) f2 (by decide), g2⟩
      refine i_call (T := (93, zp_93)) rfl rfl h2 rfl rfl rfl rfl rfl rfl rfl ?_
      exact hq
    · subst h
      obtain ⟨M2, h2, f2, g2⟩ := c_pfE (b := b) hS1 h96 (by omega) hb
      refine ⟨M2, fun q hq => pre q 18 rfl ?_, Fr_t (Fr_r _ _) f2 (by decide), g2⟩
      refine i_call (T := (96, zp_96)) rfl rfl h2 rfl rfl rfl rfl rfl rfl rfl ?_
      exact hq
  have no : ∀ (f : Nat) (M1 : iM) (q : Option Int × List zS × iM), n = 0 → irun none zp_106 42 [some (iP 11), some (iP 7), some (iI (n : Int)), some (iI (f : Int)), some (iI ((3 : Nat) : Int))] [iI 0] (SH b) M1 0 0 q → irun none zp_106 28 [some (iP 11), some (iP 7), some (iI (n : Int)), some (iI (f : Int)), some (iI ((3 : Nat) : Int))] [iP 12] (SH b) M1 0 0 q := by
    intro f M1 q h0 hq
    have h2 : irun none zp_96 0 (i_ent [iP 18, iP 7, iI (n : Int), iP 28] 6) [] (SH b) M1 0 0 (some 0, SH b, M1) := by
      refine i_iload_n rfl rfl ?_
      refine i_if_eq_t rfl (by first | omega | assumption) ?_
      refine i_iconst (n := 0) rfl (by unfold iR; omega) ?_
      -- at 14
      exact i_zreturn rfl rfl (by first | omega | assumption)
    refine i_iload rfl rfl ?_
    -- at 30
    refine i_aald (n := 4) rfl rfl (by omega) (by omega) (p2 := 18) rfl ?_
    refine i_aload_n rfl rfl ?_
    refine i_iload_n rfl rfl ?_
    refine i_aload_n rfl rfl ?_
    refine i_getr rfl rfl rfl rfl (by decide) rfl ?_
    -- at 37
    refine i_call (T := (96, zp_96)) rfl rfl h2 rfl rfl rfl rfl rfl rfl rfl ?_
    exact hq
  have cl : ∀ M1 : iM, irun none zp_76 0 (i_ent [iP 28] 1) [] (SH b) M1 0 0 (none, SH b, i_st (i_st M1 28 1 0) 28 2 0) := by
    intro M1
    refine i_aload_n rfl rfl ?_
    refine i_iconst (n := 0) rfl (by unfold iR; omega) ?_
    refine i_puti rfl rfl rfl rfl ?_
    refine i_aload_n rfl rfl ?_
    refine i_iconst (n := 0) rfl (by unfold iR; omega) ?_
    refine i_puti rfl rfl rfl rfl ?_
    -- at 10
    exact i_vreturn rfl rfl
  have byc : ∀ (M1 : iM) (l : List Int), BW M1 l → l.length ≤ 100000 → irun none zp_77 0 (i_ent [iP 28] 1) [] (SH b) M1 0 0 (some (((l.length + 7) / 8 : Nat) : Int), SH b, M1) := by
    intro M1 l hb hl
    have h1 := hb.1
    refine i_aload_n rfl rfl ?_
    refine i_getf rfl rfl rfl rfl (by decide) ?_
    -- at 4
    rw [h1]
    refine i_bipush (n := 7) rfl (by unfold iR; omega) (by decide) ?_
    refine i_iadd rfl (by unfold iR; omega) ?_
    refine i_bipush (n := 8) rfl (by unfold iR; omega) (by decide) ?_
    refine i_idiv rfl (by first | omega | assumption) (by first | omega | assumption) ?_
    -- at 10
    rw [show ((l.length : Int) + 7) / 8 = (((l.length + 7) / 8 : Nat) : Int) by omega]
    exact i_ireturn rfl rfl
  have loop : ∀ (d c : Nat) (M1 : iM), c + d = 4 → Fr [17, 18, 19, 20, 21, 22, 23, 24, 25, 26, 27, 28, 29, 30] M M1 → (1 ≤ c → M1 30 0 = ((chs S n c).1 : Int) ∧ ∀ k, k < (chs S n c).2 → M1 30 (3 + k) = pk (eN S n (chs S n c).1) k) → ∃ M2, (∀ q, irun none zp_106 95 [some (iP 11), some (iP 7), some (iI (n : Int)), some (iI ((chs S n 4).2 : Int)), some (iI ((4 : Nat) : Int))] [] (SH b) M2 0 0 q → irun none zp_106 7 [some (iP 11), some (iP 7), some (iI (n : Int)), some (iI ((chs S n c).2 : Int)), some (iI (c : Int))] [] (SH b) M1 0 0 q) ∧ Fr [17, 18, 19, 20, 21, 22, 23, 24, 25, 26, 27, 28, 29, 30] M M2 ∧ M2 30 0 = ((chs S n 4).1 : Int) ∧ ∀ k, k < (chs S n 4).2 → M2 30 (3 + k) = pk (eN S n (chs S n 4).1) k := by
    intro d
    induction d with
    | zero =>
      intro c M1 hc f1 h1
      obtain rfl : c = 4 := by omega
      refine ⟨M1, fun q hq => ?_, f1, h1 (by omega)⟩
      refine i_iload rfl rfl ?_
      refine i_aload_n rfl rfl ?_
      refine i_getr rfl rfl rfl rfl (by decide) rfl ?_
      refine i_alen rfl rfl (by omega) (by decide) ?_
      refine i_icmp_ge_t rfl (by first | omega | assumption) ?_
      -- at 95
      exact hq
    | succ d ih =>
      intro c M1 hc f1 h1
      have hb : BW (i_st (i_st M1 28 1 0) 28 2 0) [] := ⟨rfl, fun k hk => by simp at hk, B01_nil⟩
      have f2 : Fr [17, 18, 19, 20, 21, 22, 23, 24, 25, 26, 27, 28, 29, 30] M (i_st (i_st M1 28 1 0) 28 2 0) := Fr_st (Fr_st f1 (by decide)) (by decide)
      have ech : chs S n (c + 1) = if c = 3 ∧ n = 0 then chs S n c else if bc S n c < (chs S n c).2 then (c, bc S n c) else chs S n c := rfl
      by_cases h30 : c = 3 ∧ n = 0
      · rw [if_pos h30] at ech
        obtain ⟨rfl, hn0⟩ := h30
        obtain ⟨M2, k1, k2⟩ := ih 4 (i_st (i_st M1 28 1 0) 28 2 0) (by omega) f2 (fun _ => by rw [ech]; exact h1 (by omega))
        refine ⟨M2, fun q hq => ?_, k2⟩
        have k1 := k1 q hq
        rw [ech] at k1
        refine i_iload rfl rfl ?_
        refine i_aload_n rfl rfl ?_
        refine i_getr rfl rfl rfl rfl (by decide) rfl ?_
        refine i_alen rfl rfl (by omega) (by decide) ?_
        refine i_icmp_ge_f rfl (by first | omega | assumption) ?_
        refine i_aload_n rfl rfl ?_
        refine i_getr rfl rfl rfl rfl (by decide) rfl ?_
        -- at 21
        refine i_call (T := (76, zp_76)) rfl rfl ((cl M1)) rfl rfl rfl rfl rfl rfl rfl ?_
        try dsimp only
        refine i_aload_n rfl rfl ?_
        refine i_getr rfl rfl rfl rfl (by decide) rfl ?_
        -- at 28
        refine no _ _ _ hn0 ?_
        refine i_if_eq_t rfl (by first | omega | assumption) ?_
        refine i_iinc rfl rfl (by unfold iR; omega) (Nat.le_of_ble_eq_true rfl) rfl ?_
        refine i_goto rfl ?_
        -- at 7
        exact k1
      · rw [if_neg h30] at ech
        have hf : (chs S n c).2 ≤ 256 := by
          cases c with
          | zero => exact Nat.le_refl _
          | succ c => have := (chs_b (S := S) h96 c).1; omega
        have hlen := eN_len (c := c) (fun j hj => (hS j hj).2) h96 h30 (by omega)
        have hS1 : ∀ j, j < n → (i_st (i_st M1 28 1 0) 28 2 0) 7 j = S j ∧ 0 ≤ S j ∧ S j < 256 := fun j hj => by
          show M1 7 j = _ ∧ _
          rw [f1 7 (by decide)]
          exact hS j hj
        obtain ⟨M2, e1, e2, e3⟩ := enc c (chs S n c).2 (i_st (i_st M1 28 1 0) 28 2 0) (by omega) h30 hS1 hb
        have hby := byc M2 _ e3 (by omega)
        rw [show ((eN S n c).length + 7) / 8 = bc S n c from rfl] at hby
        have f3 : Fr [17, 18, 19, 20, 21, 22, 23, 24, 25, 26, 27, 28, 29, 30] M M2 := Fr_t f2 e2 (by decide)
        have e30 : M2 30 = M1 30 := e2 30 (by decide)
        have hbc : bc S n c ≤ 256 := by unfold bc; omega
        by_cases hl : bc S n c < (chs S n c).2
        · rw [if_pos hl] at ech
          obtain ⟨M3, k1, k2⟩ := ih (c + 1) (i_cp (i_st M2 30 0 (c : Int)) 29 0 30 3 (bc S n c)) (by omega) (Fr_cp (Fr_st f3 (by decide)) (by decide)) (fun _ => by
            rw [ech]
            refine ⟨?_, fun k hk => ?_⟩
            · show (if 3 ≤ 0 ∧ 0 < 3 + bc S n c then M2 29 (0 + (0 - 3)) else va_up (M2 30) 0 (c : Int) 0) = (c : Int)
              rw [if_neg (by omega), up_s]
            · have hk : k < bc S n c := hk
              show (if 3 ≤ 3 + k ∧ 3 + k < 3 + bc S n c then M2 29 (0 + (3 + k - 3)) else va_up (M2 30) 0 (c : Int) (3 + k)) = pk (eN S n c) k
              rw [if_pos (by omega), show 0 + (3 + k - 3) = k by omega]
              exact e3.2.1 k (by unfold bc at hk; omega))
          refine ⟨M3, fun q hq => ?_, k2⟩
          have k1 := k1 q hq
          rw [ech] at k1
          refine i_iload rfl rfl ?_
          refine i_aload_n rfl rfl ?_
          refine i_getr rfl rfl rfl rfl (by decide) rfl ?_
          refine i_alen rfl rfl (by omega) (by decide) ?_
          refine i_icmp_ge_f rfl (by first | omega | assumption) ?_
          refine i_aload_n rfl rfl ?_
          refine i_getr rfl rfl rfl rfl (by decide) rfl ?_
          -- at 21
          refine i_call (T := (76, zp_76)) rfl rfl ((cl M1)) rfl rfl rfl rfl rfl rfl rfl ?_
          try dsimp only
          refine i_aload_n rfl rfl ?_
          refine i_getr rfl rfl rfl rfl (by decide) rfl ?_
          -- at 28
          refine e1 q ?_
          refine i_if_eq_f rfl (by first | omega | assumption) ?_
          refine i_aload_n rfl rfl ?_
          refine i_getr rfl rfl rfl rfl (by decide) rfl ?_
          -- at 49
          refine i_call (T := (77, zp_77)) rfl rfl (hby) rfl rfl rfl rfl rfl rfl rfl ?_
          try dsimp only
          show irun none zp_106 52 _ (iI ((bc S n c : Int)) :: _) _ _ 0 0 _
          refine i_iload_n rfl rfl ?_
          refine i_icmp_ge_f rfl (by first | omega | assumption) ?_
          refine i_aload_n rfl rfl ?_
          refine i_getr rfl rfl rfl rfl (by decide) rfl ?_
          -- at 60
          refine i_call (T := (77, zp_77)) rfl rfl (hby) rfl rfl rfl rfl rfl rfl rfl ?_
          try dsimp only
          show irun none zp_106 63 _ (iI ((bc S n c : Int)) :: _) _ _ 0 0 _
          refine i_istore_n rfl (Nat.le_of_ble_eq_true rfl) rfl ?_
          refine i_aload_n rfl rfl ?_
          refine i_getr rfl rfl rfl rfl (by decide) rfl ?_
          refine i_iconst (n := 0) rfl (by unfold iR; omega) ?_
          refine i_iload rfl rfl ?_
          refine i_iast rfl rfl (by first | omega | assumption) (by first | omega | assumption) ?_
          refine i_aload_n rfl rfl ?_
          refine i_getr rfl rfl rfl rfl (by decide) rfl ?_
          refine i_getr rfl rfl rfl rfl (by decide) rfl ?_
          refine i_iconst (n := 0) rfl (by unfold iR; omega) ?_
          refine i_aload_n rfl rfl ?_
          refine i_getr rfl rfl rfl rfl (by decide) rfl ?_
          refine i_iconst (n := 3) rfl (by unfold iR; omega) ?_
          refine i_iload_n rfl rfl ?_
          -- at 86
          refine i_copy (n0 := 256) (n1 := 259) rfl rfl rfl rfl (by omega) (by omega) (by omega) (by omega) (by omega) (Nat.le_of_ble_eq_true rfl) ?_
          rw [show (bc S n c : Int).toNat = bc S n c by omega]
          refine i_iinc rfl rfl (by unfold iR; omega) (Nat.le_of_ble_eq_true rfl) rfl ?_
          refine i_goto rfl ?_
          -- at 7
          exact k1
        · rw [if_neg hl] at ech
          obtain ⟨M3, k1, k2⟩ := ih (c + 1) M2 (by omega) f3 (fun h0 => by
            rw [ech]
            cases c with
            | zero =>
              exfalso
              apply hl
              rw [bc_0]
              show n < 256
              omega
            | succ c =>
              rw [e30]
              exact h1 (by omega))
          refine ⟨M3, fun q hq => ?_, k2⟩
          have k1 := k1 q hq
          rw [ech] at k1
          refine i_iload rfl rfl ?_
          refine i_aload_n rfl rfl ?_
          refine i_getr rfl rfl rfl rfl (by decide) rfl ?_
          refine i_alen rfl rfl (by omega) (by decide) ?_
          refine i_icmp_ge_f rfl (by first | omega | assumption) ?_
          refine i_aload_n rfl rfl ?_
          refine i_getr rfl rfl rfl rfl (by decide) rfl ?_
          -- at 21
          refine i_call (T := (76, zp_76)) rfl rfl ((cl M1)) rfl rfl rfl rfl rfl rfl rfl ?_
          try dsimp only
          refine i_aload_n rfl rfl ?_
          refine i_getr rfl rfl rfl rfl (by decide) rfl ?_
          -- at 28
          refine e1 q ?_
          refine i_if_eq_f rfl (by first | omega | assumption) ?_
          refine i_aload_n rfl rfl ?_
          refine i_getr rfl rfl rfl rfl (by decide) rfl ?_
          -- at 49
          refine i_call (T := (77, zp_77)) rfl rfl (hby) rfl rfl rfl rfl rfl rfl rfl ?_
          try dsimp only
          show irun none zp_106 52 _ (iI ((bc S n c : Int)) :: _) _ _ 0 0 _
          refine i_iload_n rfl rfl ?_
          refine i_icmp_ge_t rfl (by first | omega | assumption) ?_
          refine i_iinc rfl rfl (by unfold iR; omega) (Nat.le_of_ble_eq_true rfl) rfl ?_
          refine i_goto rfl ?_
          -- at 7
          exact k1
  obtain ⟨M2, k1, k2, k3, k4⟩ := loop 4 0 M (by omega) (Fr_r _ _) (fun h => by omega)
  have hf : (chs S n 4).2 ≤ n := (chs_b (S := S) h96 3).1
  refine ⟨i_st (i_st (i_st M2 30 1 (n : Int)) 30 2 ((chs S n 4).2 : Int)) 11 4 (3 + ((chs S n 4).2 : Int)), ?_, Fr_st (Fr_st (Fr_st (Fr_t (Fr_r _ _) k2 (by decide)) (by decide)) (by decide)) (by decide), k3, rfl, rfl, fun k hk => ?_, rfl, fun k hk => ?_⟩
  · refine i_sipush (n := 256) rfl (by unfold iR; omega) (by decide) ?_
    refine i_istore_n rfl (Nat.le_of_ble_eq_true rfl) rfl ?_
    refine i_iconst (n := 0) rfl (by unfold iR; omega) ?_
    refine i_istore rfl (Nat.le_of_ble_eq_true rfl) rfl ?_
    -- at 7
    refine k1 _ ?_
    refine i_aload_n rfl rfl ?_
    refine i_getr rfl rfl rfl rfl (by decide) rfl ?_
    refine i_iconst (n := 1) rfl (by unfold iR; omega) ?_
    refine i_iload_n rfl rfl ?_
    refine i_iast rfl rfl (by first | omega | assumption) (by first | omega | assumption) ?_
    refine i_aload_n rfl rfl ?_
    refine i_getr rfl rfl rfl rfl (by decide) rfl ?_
    refine i_iconst (n := 2) rfl (by unfold iR; omega) ?_
    refine i_iload_n rfl rfl ?_
    refine i_iast rfl rfl (by first | omega | assumption) (by first | omega | assumption) ?_
    refine i_aload_n rfl rfl ?_
    refine i_iconst (n := 3) rfl (by unfold iR; omega) ?_
    refine i_iload_n rfl rfl ?_
    refine i_iadd rfl (by unfold iR; omega) ?_
    refine i_puti rfl rfl rfl rfl ?_
    -- at 116
    exact i_vreturn rfl rfl
  · show va_up (va_up (M2 30) 1 _) 2 _ (3 + k) = _
    rw [up_n (by omega), up_n (by omega)]
    exact k4 k hk
  · show va_up (M2 11) 4 _ k = _
    rw [up_n hk, k2 11 (by decide)]
