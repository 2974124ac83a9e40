noncomputable def nu (f : Nat → Int) (s : Nat) : Int := @ite _ (tk f s) (Classical.propDecidable _) (rd f s 2) (-1)
theorem nu_t {f : Nat → Int} {s : Nat} (h : tk f s) : nu f s = rd f s 2 := by unfold nu; rw [if_pos h]
theorem nu_f {f : Nat → Int} {s : Nat} (h : ¬ tk f s) : nu f s = -1 := by unfold nu; rw [if_neg h]
set_option maxRecDepth 100000 in
theorem d_openA {b : Bool} {M : iM} : ∃ M', (∀ q, irun none zp_140 14 [some (iP 40), none, none, none, none, none, none, none] [] (SH b) M' 0 0 q → irun none zp_140 0 [some (iP 40), none, none, none, none, none, none, none] [] (SH b) M 0 0 q) ∧ Fr [40, 49] M M' ∧ (M' 40 1 = 0 ∧ M' 40 12 = 0 ∧ M' 40 13 = 0 ∧ M' 40 14 = 0 ∧ M' 40 15 = 0) ∧ M' 40 2 = M 40 2 ∧ M' 40 3 = M 40 3 ∧ M' 40 41 = M 40 41 ∧ M' 49 = zz (M 49) := by
  have hc := d_clear (b := b) (M := i_st (i_st M 40 1 0) 40 12 0)
  refine ⟨va_up (va_up (i_st (i_st M 40 1 0) 40 12 0) 40 (va_up (va_up (va_up (i_st (i_st M 40 1 0) 40 12 0 40) 13 0) 14 0) 15 0)) 49 (zz (M 49)), fun q hq => ?_, Fr_up (Fr_up (Fr_st (Fr_st (Fr_r _ _) ?_) ?_) ?_) ?_, ⟨rfl, rfl, rfl, rfl, rfl⟩, rfl, rfl, rfl, rfl⟩
  · refine i_aload_n rfl rfl ?_
    refine i_iconst (n := 0) rfl (by unfold iR; omega) ?_
    refine i_putz rfl rfl rfl rfl (by first | omega | assumption) ?_
    refine i_aload_n rfl rfl ?_
    refine i_iconst (n := 0) rfl (by unfold iR; omega) ?_
    refine i_puti rfl rfl rfl rfl ?_
    refine i_aload_n rfl rfl ?_
    -- at 11
    refine i_call (T := (143, zp_143)) rfl rfl (hc) rfl rfl rfl rfl rfl rfl rfl ?_
    try dsimp only
    exact hq
  · decide
  · decide
  · decide
  · decide
set_option maxRecDepth 100000 in
theorem d_slot0 {b : Bool} {M : iM} (hf : by8 (M 41) 720) : ∃ M', (∀ q, irun none zp_140 34 [some (iP 40), some (iI (bz (tk (M 41) 0))), some (iI (nu (M 41) 0)), none, none, none, none, none] [] (SH b) M' 0 0 q → irun none zp_140 14 [some (iP 40), none, none, none, none, none, none, none] [] (SH b) M 0 0 q) ∧ Fr [51, 60] M M' := by
  obtain ⟨M1, h1, f1, -⟩ := d_isTaken (b := b) (M := M) (s := 0) (by decide) hf
  by_cases z : tk (M 41) 0
  · rw [bz_t z] at h1
    have e : M1 41 = M 41 := f1 41 (by decide)
    obtain ⟨M2, h2, f2⟩ := d_number (b := b) (M := M1) (s := 0) (by decide) (by rw [e]; exact hf) (by rw [e]; exact z.1)
    rw [e] at h2
    refine ⟨M2, fun q hq => ?_, Fr_t f1 f2 (by decide)⟩
    rw [bz_t z, nu_t z] at hq
    refine i_aload_n rfl rfl ?_
    refine i_iconst (n := 0) rfl (by unfold iR; omega) ?_
    -- at 16
    refine i_call (T := (139, zp_139)) rfl rfl (h1) rfl rfl rfl rfl rfl rfl rfl ?_
    try dsimp only
    show irun none zp_140 19 _ (iI (1) :: _) _ _ 0 0 _
    refine i_istore_n rfl (Nat.le_of_ble_eq_true rfl) rfl ?_
    refine i_iload_n rfl rfl ?_
    refine i_if_eq_f rfl (by first | omega | assumption) ?_
    refine i_aload_n rfl rfl ?_
    refine i_iconst (n := 0) rfl (by unfold iR; omega) ?_
    -- at 26
    refine i_call (T := (141, zp_141)) rfl rfl (h2) rfl rfl rfl rfl rfl rfl rfl ?_
    try dsimp only
    show irun none zp_140 29 _ (iI (rd (M 41) 0 2) :: _) _ _ 0 0 _
    refine i_goto rfl ?_
    refine i_istore_n rfl (Nat.le_of_ble_eq_true rfl) rfl ?_
    -- at 34
    exact hq
  · rw [bz_f z] at h1
    refine ⟨M1, fun q hq => ?_, f1⟩
    rw [bz_f z, nu_f z] at hq
    refine i_aload_n rfl rfl ?_
    refine i_iconst (n := 0) rfl (by unfold iR; omega) ?_
    -- at 16
    refine i_call (T := (139, zp_139)) rfl rfl (h1) rfl rfl rfl rfl rfl rfl rfl ?_
    try dsimp only
    show irun none zp_140 19 _ (iI (0) :: _) _ _ 0 0 _
    refine i_istore_n rfl (Nat.le_of_ble_eq_true rfl) rfl ?_
    refine i_iload_n rfl rfl ?_
    refine i_if_eq_t rfl (by first | omega | assumption) ?_
    refine i_iconst (n := -1) rfl (by unfold iR; omega) ?_
    refine i_istore_n rfl (Nat.le_of_ble_eq_true rfl) rfl ?_
    -- at 34
    exact hq
set_option maxRecDepth 100000 in
theorem d_slot1 {b : Bool} {M : iM} {x y : Int} (hf : by8 (M 41) 720) : ∃ M', (∀ q, irun none zp_140 55 [some (iP 40), some (iI x), some (iI y), some (iI (bz (tk (M 41) 1))), some (iI (nu (M 41) 1)), none, none, none] [] (SH b) M' 0 0 q → irun none zp_140 34 [some (iP 40), some (iI x), some (iI y), none, none, none, none, none] [] (SH b) M 0 0 q) ∧ Fr [51, 60] M M' := by
  obtain ⟨M1, h1, f1, -⟩ := d_isTaken (b := b) (M := M) (s := 1) (by decide) hf
  by_cases z : tk (M 41) 1
  · rw [bz_t z] at h1
    have e : M1 41 = M 41 := f1 41 (by decide)
    obtain ⟨M2, h2, f2⟩ := d_number (b := b) (M := M1) (s := 1) (by decide) (by rw [e]; exact hf) (by rw [e]; exact z.1)
    rw [e] at h2
    refine ⟨M2, fun q hq => ?_, Fr_t f1 f2 (by decide)⟩
    rw [bz_t z, nu_t z] at hq
    refine i_aload_n rfl rfl ?_
    refine i_iconst (n := 1) rfl (by unfold iR; omega) ?_
    -- at 36
    refine i_call (T := (139, zp_139)) rfl rfl (h1) rfl rfl rfl rfl rfl rfl rfl ?_
    try dsimp only
    show irun none zp_140 39 _ (iI (1) :: _) _ _ 0 0 _
    refine i_istore_n rfl (Nat.le_of_ble_eq_true rfl) rfl ?_
    refine i_iload_n rfl rfl ?_
    refine i_if_eq_f rfl (by first | omega | assumption) ?_
    refine i_aload_n rfl rfl ?_
    refine i_iconst (n := 1) rfl (by unfold iR; omega) ?_
    -- at 46
    refine i_call (T := (141, zp_141)) rfl rfl (h2) rfl rfl rfl rfl rfl rfl rfl ?_
    try dsimp only
    show irun none zp_140 49 _ (iI (rd (M 41) 1 2) :: _) _ _ 0 0 _
    refine i_goto rfl ?_
    refine i_istore rfl (Nat.le_of_ble_eq_true rfl) rfl ?_
    -- at 55
    exact hq
  · rw [bz_f z] at h1
    refine ⟨M1, fun q hq => ?_, f1⟩
    rw [bz_f z, nu_f z] at hq
    refine i_aload_n rfl rfl ?_
    refine i_iconst (n := 1) rfl (by unfold iR; omega) ?_
    -- at 36
    refine i_call (T := (139, zp_139)) rfl rfl (h1) rfl rfl rfl rfl rfl rfl rfl ?_
    try dsimp only
    show irun none zp_140 39 _ (iI (0) :: _) _ _ 0 0 _
    refine i_istore_n rfl (Nat.le_of_ble_eq_true rfl) rfl ?_
    refine i_iload_n rfl rfl ?_
    refine i_if_eq_t rfl (by first | omega | assumption) ?_
    refine i_iconst (n := -1) rfl (by unfold iR; omega) ?_
    refine i_istore rfl (Nat.le_of_ble_eq_true rfl) rfl ?_
    -- at 55
    exact hq
set_option maxRecDepth 100000 in
theorem d_choose {b : Bool} {M : iM} {f : Nat → Int} (hf : by8 f 720) {q : Option Int × List zS × iM} (hq : irun none zp_140 130 [some (iP 40), some (iI (bz (tk f 0))), some (iI (nu f 0)), some (iI (bz (tk f 1))), some (iI (nu f 1)), some (iI ((cs f : Nat) : Int)), some (iI (bz (tk f 0 ∨ tk f 1))), none] [iI (oH f 2), iP 40] (SH b) M 0 0 q) :
    irun none zp_140 55 [some (iP 40), some (iI (bz (tk f 0))), some (iI (nu f 0)), some (iI (bz (tk f 1))), some (iI (nu f 1)), none, none, none] [] (SH b) M 0 0 q := by
  have hb0 := rd_b (s := 0) (k := 2) hf (by decide) (by decide)
  have hb1 := rd_b (s := 1) (k := 2) hf (by decide) (by decide)
  by_cases z : tk f 0
  · rw [bz_t (show tk f 0 ∨ tk f 1 from Or.inl z), oH_t (Or.inl z)] at hq
    rw [nu_t z, bz_t z] at hq ⊢
    by_cases o : tk f 1
    · rw [nu_t o, bz_t o] at hq ⊢
      by_cases e : rd f 1 2 = (rd f 0 2 + 1) % 256
      · rw [cs_1 ⟨o, Or.inr e⟩] at hq
        refine i_iload_n rfl rfl ?_
        refine i_if_eq_f rfl (by first | omega | assumption) ?_
        refine i_iload_n rfl rfl ?_
        refine i_if_eq_f rfl (by first | omega | assumption) ?_
        refine i_iload rfl rfl ?_
        refine i_iload_n rfl rfl ?_
        refine i_iconst (n := 1) rfl (by unfold iR; omega) ?_
        refine i_iadd rfl (by unfold iR; omega) ?_
        refine i_sipush (n := 255) rfl (by unfold iR; omega) (by decide) ?_
        refine i_iand 8 rfl (by decide) (by decide) ?_
        -- at 72
        show irun none zp_140 72 _ (iI ((rd f 0 2 + 1) % 256) :: _) _ _ 0 0 _
        refine i_icmp_ne_f rfl (by first | omega | assumption) ?_
        refine i_iconst (n := 1) rfl (by unfold iR; omega) ?_
        refine i_goto rfl ?_
        refine i_istore rfl (Nat.le_of_ble_eq_true rfl) rfl ?_
        refine i_iload_n rfl rfl ?_
        refine i_if_ne_t rfl (by first | omega | assumption) ?_
        refine i_iconst (n := 1) rfl (by unfold iR; omega) ?_
        refine i_goto rfl ?_
        refine i_istore rfl (Nat.le_of_ble_eq_true rfl) rfl ?_
        refine i_aload_n rfl rfl ?_
        refine i_iload rfl rfl ?_
        refine i_if_eq_f rfl (by first | omega | assumption) ?_
        refine i_iload rfl rfl ?_
        refine i_if_ne_t rfl (by first | omega | assumption) ?_
        refine i_iload rfl rfl ?_
        refine i_goto rfl ?_
        -- at 130
        exact hq
      · rw [cs_0 (f := f) (fun q => q.2.elim (fun q => q z) e)] at hq
        refine i_iload_n rfl rfl ?_
        refine i_if_eq_f rfl (by first | omega | assumption) ?_
        refine i_iload_n rfl rfl ?_
        refine i_if_eq_f rfl (by first | omega | assumption) ?_
        refine i_iload rfl rfl ?_
        refine i_iload_n rfl rfl ?_
        refine i_iconst (n := 1) rfl (by unfold iR; omega) ?_
        refine i_iadd rfl (by unfold iR; omega) ?_
        refine i_sipush (n := 255) rfl (by unfold iR; omega) (by decide) ?_
        refine i_iand 8 rfl (by decide) (by decide) ?_
        -- at 72
        show irun none zp_140 72 _ (iI ((rd f 0 2 + 1) % 256) :: _) _ _ 0 0 _
        refine i_icmp_ne_t rfl (by first | omega | assumption) ?_
        refine i_iconst (n := 0) rfl (by unfold iR; omega) ?_
        refine i_goto rfl ?_
        refine i_istore rfl (Nat.le_of_ble_eq_true rfl) rfl ?_
        refine i_iload_n rfl rfl ?_
        refine i_if_ne_t rfl (by first | omega | assumption) ?_
        refine i_iconst (n := 1) rfl (by unfold iR; omega) ?_
        refine i_goto rfl ?_
        refine i_istore rfl (Nat.le_of_ble_eq_true rfl) rfl ?_
        refine i_aload_n rfl rfl ?_
        refine i_iload rfl rfl ?_
        refine i_if_eq_f rfl (by first | omega | assumption) ?_
        refine i_iload rfl rfl ?_
        refine i_if_ne_f rfl (by first | omega | assumption) ?_
        refine i_iload_n rfl rfl ?_
        refine i_goto rfl ?_
        -- at 130
        exact hq
    · rw [cs_0 (f := f) (fun q => o q.1)] at hq
      rw [nu_f o, bz_f o] at hq ⊢
      refine i_iload_n rfl rfl ?_
      refine i_if_eq_f rfl (by first | omega | assumption) ?_
      refine i_iload_n rfl rfl ?_
      refine i_if_eq_t rfl (by first | omega | assumption) ?_
      refine i_iload_n rfl rfl ?_
      refine i_if_eq_t rfl (by first | omega | assumption) ?_
      refine i_iconst (n := 0) rfl (by unfold iR; omega) ?_
      refine i_istore rfl (Nat.le_of_ble_eq_true rfl) rfl ?_
      refine i_iload_n rfl rfl ?_
      refine i_if_ne_t rfl (by first | omega | assumption) ?_
      refine i_iconst (n := 1) rfl (by unfold iR; omega) ?_
      refine i_goto rfl ?_
      refine i_istore rfl (Nat.le_of_ble_eq_true rfl) rfl ?_
      refine i_aload_n rfl rfl ?_
      refine i_iload rfl rfl ?_
      refine i_if_eq_f rfl (by first | omega | assumption) ?_
      refine i_iload rfl rfl ?_
      refine i_if_ne_f rfl (by first | omega | assumption) ?_
      refine i_iload_n rfl rfl ?_
      refine i_goto rfl ?_
      -- at 130
      exact hq
  · rw [bz_f z] at hq ⊢
    rw [nu_f z] at hq ⊢
    by_cases o : tk f 1
    · rw [bz_t (show tk f 0 ∨ tk f 1 from Or.inr o), oH_t (Or.inr o), cs_1 ⟨o, Or.inl z⟩] at hq
      rw [nu_t o, bz_t o] at hq ⊢
      refine i_iload_n rfl rfl ?_
      refine i_if_eq_t rfl (by first | omega | assumption) ?_
      refine i_iload_n rfl rfl ?_
      refine i_if_eq_f rfl (by first | omega | assumption) ?_
      refine i_iconst (n := 1) rfl (by unfold iR; omega) ?_
      refine i_goto rfl ?_
      refine i_istore rfl (Nat.le_of_ble_eq_true rfl) rfl ?_
      refine i_iload_n rfl rfl ?_
      refine i_if_ne_f rfl (by first | omega | assumption) ?_
      refine i_iload_n rfl rfl ?_
      refine i_if_eq_f rfl (by first | omega | assumption) ?_
      refine i_iconst (n := 1) rfl (by unfold iR; omega) ?_
      refine i_goto rfl ?_
      refine i_istore rfl (Nat.le_of_ble_eq_true rfl) rfl ?_
      refine i_aload_n rfl rfl ?_
      refine i_iload rfl rfl ?_
      refine i_if_eq_f rfl (by first | omega | assumption) ?_
      refine i_iload rfl rfl ?_
      refine i_if_ne_t rfl (by first | omega | assumption) ?_
      refine i_iload rfl rfl ?_
      refine i_goto rfl ?_
      -- at 130
      exact hq
    · have ho : ¬ (tk f 0 ∨ tk f 1) := fun q => q.elim z o
      rw [bz_f ho, oH_f ho, cs_0 (f := f) (fun q => o q.1)] at hq
      rw [nu_f o, bz_f o] at hq ⊢
      refine i_iload_n rfl rfl ?_
      refine i_if_eq_t rfl (by first | omega | assumption) ?_
      refine i_iload_n rfl rfl ?_
      refine i_if_eq_t rfl (by first | omega | assumption) ?_
      refine i_iconst (n := 0) rfl (by unfold iR; omega) ?_
      refine i_istore rfl (Nat.le_of_ble_eq_true rfl) rfl ?_
      refine i_iload_n rfl rfl ?_
      refine i_if_ne_f rfl (by first | omega | assumption) ?_
      refine i_iload_n rfl rfl ?_
      refine i_if_eq_t rfl (by first | omega | assumption) ?_
      refine i_iconst (n := 0) rfl (by unfold iR; omega) ?_
      refine i_istore rfl (Nat.le_of_ble_eq_true rfl) rfl ?_
      refine i_aload_n rfl rfl ?_
      refine i_iload rfl rfl ?_
      refine i_if_eq_t rfl (by first | omega | assumption) ?_
      refine i_iconst (n := 0) rfl (by unfold iR; omega) ?_
      -- at 130
      exact hq
set_option maxRecDepth 100000 in
theorem d_openB {b : Bool} {M : iM} {l1 l2 l3 l4 l5 l6 num : Int} : ∃ M', (∀ q, irun none zp_140 179 [some (iP 40), some (iI l1), some (iI l2), some (iI l3), some (iI l4), some (iI l5), some (iI l6), some (iI 8)] [] (SH b) M' 0 0 q → irun none zp_140 130 [some (iP 40), some (iI l1), some (iI l2), some (iI l3), some (iI l4), some (iI l5), some (iI l6), none] [iI num, iP 40] (SH b) M 0 0 q) ∧ Fr [40, 42, 44] M M' ∧ (M' 40 8 = num ∧ M' 40 6 = 0 ∧ M' 40 7 = 0 ∧ M' 40 9 = 0) ∧ (∀ k, k ≠ 6 → k ≠ 7 → k ≠ 8 → k ≠ 9 → M' 40 k = M 40 k) ∧ M' 42 0 = 0 ∧ ∀ k, k < 8 → M' 44 k = 0 := by
  obtain ⟨M1, hM1⟩ : ∃ M1, M1 = i_st (i_st (i_st (i_st (i_st M 40 8 num) 40 6 0) 40 7 0) 42 0 0) 40 9 0 := ⟨_, rfl⟩
  have loop : ∀ q, irun none zp_140 179 [some (iP 40), some (iI l1), some (iI l2), some (iI l3), some (iI l4), some (iI l5), some (iI l6), some (iI 8)] [] (SH b) (va_up M1 44 (fun j => if j < 8 then 0 else M1 44 j)) 0 0 q → ∀ (c k : Nat), k + c = 8 → irun none zp_140 158 [some (iP 40), some (iI l1), some (iI l2), some (iI l3), some (iI l4), some (iI l5), some (iI l6), some (iI (k : Int))] [] (SH b) (va_up M1 44 (fun j => if j < k then 0 else M1 44 j)) 0 0 q := by
    intro q hq c
    induction c with
    | zero =>
      intro k hk
      obtain rfl : k = 8 := by omega
      refine i_iload rfl rfl ?_
      refine i_bipush (n := 8) rfl (by unfold iR; omega) (by decide) ?_
      refine i_icmp_ge_t rfl (by first | omega | assumption) ?_
      -- at 179
      exact hq
    | succ c ih =>
      intro k hk
      have hn := ih (k + 1) (by omega)
      refine i_iload rfl rfl ?_
      refine i_bipush (n := 8) rfl (by unfold iR; omega) (by decide) ?_
      refine i_icmp_ge_f rfl (by first | omega | assumption) ?_
      refine i_aload_n rfl rfl ?_
      refine i_getr rfl rfl rfl rfl (by decide) rfl ?_
      refine i_iload rfl rfl ?_
      refine i_iconst (n := 0) rfl (by unfold iR; omega) ?_
      refine i_iast rfl rfl (by first | omega | assumption) (by first | omega | assumption) ?_
      refine i_iinc rfl rfl (by unfold iR; omega) (Nat.le_of_ble_eq_true rfl) rfl ?_
      refine i_goto rfl ?_
      -- at 158
      rw [st_up (g := fun j => if j < k + 1 then 0 else M1 44 j)]
      · exact hn
      · rw [show (k : Int).toNat = k by omega]
        exact up_step (f := fun _ => 0) rfl
  refine ⟨va_up M1 44 (fun j => if j < 8 then 0 else M1 44 j), fun q hq => ?_, Fr_up (show Fr [40, 42, 44] M M1 by rw [hM1]; exact Fr_st (Fr_st (Fr_st (Fr_st (Fr_st (Fr_r _ _) (by decide)) (by decide)) (by decide)) (by decide)) (by decide)) (by decide), ?_, ?_, ?_, fun k hk => ?_⟩
  · have h0 := loop q hq 8 0 rfl
    rw [up_id M1 44 (f := fun j => if j < 0 then 0 else M1 44 j) (by funext j; rw [if_neg (by omega)]), hM1] at h0
    refine i_puti rfl rfl rfl rfl ?_
    refine i_aload_n rfl rfl ?_
    refine i_iconst (n := 0) rfl (by unfold iR; omega) ?_
    refine i_puti rfl rfl rfl rfl ?_
    refine i_aload_n rfl rfl ?_
    refine i_iconst (n := 0) rfl (by unfold iR; omega) ?_
    refine i_puti rfl rfl rfl rfl ?_
    refine i_aload_n rfl rfl ?_
    refine i_getr rfl rfl rfl rfl (by decide) rfl ?_
    refine i_iconst (n := 0) rfl (by unfold iR; omega) ?_
    refine i_iconst (n := 0) rfl (by unfold iR; omega) ?_
    refine i_iast rfl rfl (by first | omega | assumption) (by first | omega | assumption) ?_
    refine i_aload_n rfl rfl ?_
    refine i_iconst (n := 0) rfl (by unfold iR; omega) ?_
    refine i_puti rfl rfl rfl rfl ?_
    refine i_iconst (n := 0) rfl (by unfold iR; omega) ?_
    refine i_istore rfl (Nat.le_of_ble_eq_true rfl) rfl ?_
    -- at 158
    exact h0
  · rw [hM1]
    exact ⟨rfl, rfl, rfl, rfl⟩
  · intro k k6 k7 k8 k9
    show M1 40 k = _
    rw [hM1]
    show (if k = 9 then _ else if k = 7 then _ else if k = 6 then _ else if k = 8 then _ else M 40 k) = _
    rw [if_neg k9, if_neg k7, if_neg k6, if_neg k8]
  · show M1 42 0 = _
    rw [hM1]
    rfl
  · show (if k < 8 then 0 else _) = (0 : Int)
    rw [if_pos hk]
set_option maxRecDepth 100000 in
theorem d_open {b : Bool} {M : iM} (hf : by8 (M 41) 720) :
    ∃ M', irun none zp_140 0 (i_ent [iP 40] 8) [] (SH b) M 0 0 (some (oN (M 41)), SH b, M') ∧ Fr [40, 42, 44, 49, 51, 60] M M' ∧ (M' 40 1 = 0 ∧ M' 40 12 = 0 ∧ M' 40 13 = 0 ∧ M' 40 14 = 0 ∧ M' 40 15 = 0) ∧ M' 40 2 = M 40 2 ∧ M' 40 3 = M 40 3 ∧ M' 40 41 = M 40 41 ∧ M' 49 = zz (M 49) ∧
      M' 40 9 = mxt (oW (M 41)) (oN (M 41)).toNat ∧ (∀ k, k < 8 → M' 44 k = bsf (fun _ => 0) (oW (M 41)) (oN (M 41)).toNat k) ∧ M' 42 0 = oN (M 41) ∧ M' 40 8 = oH (M 41) 2 ∧ M' 40 6 = oH (M 41) 3 ∧ M' 40 7 = oH (M 41) 4 ∧ ∀ j : Nat, (j : Int) < 7 * oN (M 41) → M' 42 (1 + j) = oW (M 41) j := by
  obtain ⟨M1, h1, f1, ⟨a1, a2, a3, a4, a5⟩, a6, a7, a8, a9⟩ := d_openA (b := b) (M := M)
  have e1 : M1 41 = M 41 := f1 41 (by decide)
  obtain ⟨M2, h2, f2⟩ := d_slot0 (b := b) (M := M1) (by rw [e1]; exact hf)
  have e2 : M2 41 = M 41 := (f2 41 (by decide)).trans e1
  obtain ⟨M3, h3, f3⟩ := d_slot1 (b := b) (M := M2) (x := bz (tk (M 41) 0)) (y := nu (M 41) 0) (by rw [e2]; exact hf)
  rw [e1] at h2
  rw [e2] at h3
  have e3 : M3 41 = M 41 := (f3 41 (by decide)).trans e2
  have e340 : M3 40 = M1 40 := (f3 40 (by decide)).trans (f2 40 (by decide))
  have e349 : M3 49 = M1 49 := (f3 49 (by decide)).trans (f2 49 (by decide))
  obtain ⟨M4, h4, f4, ⟨b1, b2, b3, b4⟩, b5, b6, b7⟩ := d_openB (b := b) (M := M3) (l1 := bz (tk (M 41) 0)) (l2 := nu (M 41) 0) (l3 := bz (tk (M 41) 1)) (l4 := nu (M 41) 1) (l5 := ((cs (M 41) : Nat) : Int)) (l6 := bz (tk (M 41) 0 ∨ tk (M 41) 1)) (num := oH (M 41) 2)
  have e4 : M4 41 = M 41 := (f4 41 (by decide)).trans e3
  rw [e340] at b5
  have e449 : M4 49 = zz (M 49) := by rw [f4 49 (by decide), e349, a9]
  have fr4 : Fr [40, 42, 44, 49, 51, 60] M M4 := Fr_t (Fr_t (Fr_t (Fr_t (Fr_r _ _) f1 (by decide)) f2 (by decide)) f3 (by decide)) f4 (by decide)
  have hpre : ∀ q, irun none zp_140 179 [some (iP 40), some (iI (bz (tk (M 41) 0))), some (iI (nu (M 41) 0)), some (iI (bz (tk (M 41) 1))), some (iI (nu (M 41) 1)), some (iI ((cs (M 41) : Nat) : Int)), some (iI (bz (tk (M 41) 0 ∨ tk (M 41) 1))), some (iI 8)] [] (SH b) M4 0 0 q → irun none zp_140 0 (i_ent [iP 40] 8) [] (SH b) M 0 0 q := fun q hq => h1 q (h2 q (h3 q (d_choose hf (h4 q hq))))
  by_cases hs : tk (M 41) 0 ∨ tk (M 41) 1
  · obtain ⟨t1, t2⟩ := cs_tk hs
    obtain ⟨M5, h5, f5, c1, c2, c3, c4, c5, c6, c7⟩ := d_settle (b := b) (M := M4) (s := cs (M 41)) t2 (by rw [e4]; exact hf) (by rw [e4]; exact t1) b4
    rw [e4] at c1 c2 c3 c5 c6 c7
    rw [← oN_t hs] at c3 c5 c6 c7
    rw [bz_t hs] at hpre
    refine ⟨M5, hpre _ ?_, Fr_t fr4 f5 (by decide), ⟨?_, ?_, ?_, ?_, ?_⟩, ?_, ?_, ?_, ?_, c3, ?_, c5, ?_, ?_, ?_, c6⟩
    · rw [← c5]
      refine i_iload rfl rfl ?_
      refine i_if_eq_f rfl (by first | omega | assumption) ?_
      refine i_aload_n rfl rfl ?_
      refine i_iload rfl rfl ?_
      -- at 187
      refine i_call (T := (142, zp_142)) rfl rfl (h5) rfl rfl rfl rfl rfl rfl rfl ?_
      try dsimp only
      refine i_aload_n rfl rfl ?_
      refine i_getr rfl rfl rfl rfl (by decide) rfl ?_
      refine i_iconst (n := 0) rfl (by unfold iR; omega) ?_
      refine i_iald rfl rfl (by first | omega | assumption) (by first | omega | assumption) (by decide) ?_
      -- at 196
      exact i_ireturn rfl rfl
    · rw [c4 1 (by decide) (by decide) (by decide), b5 1 (by decide) (by decide) (by decide) (by decide), a1]
    · rw [c4 12 (by decide) (by decide) (by decide), b5 12 (by decide) (by decide) (by decide) (by decide), a2]
    · rw [c4 13 (by decide) (by decide) (by decide), b5 13 (by decide) (by decide) (by decide) (by decide), a3]
    · rw [c4 14 (by decide) (by decide) (by decide), b5 14 (by decide) (by decide) (by decide) (by decide), a4]
    · rw [c4 15 (by decide) (by decide) (by decide), b5 15 (by decide) (by decide) (by decide) (by decide), a5]
    · rw [c4 2 (by decide) (by decide) (by decide), b5 2 (by decide) (by decide) (by decide) (by decide), a6]
    · rw [c4 3 (by decide) (by decide) (by decide), b5 3 (by decide) (by decide) (by decide) (by decide), a7]
    · rw [c4 41 (by decide) (by decide) (by decide), b5 41 (by decide) (by decide) (by decide) (by decide), a8]
    · rw [f5 49 (by decide), e449]
    · intro k hk
      rw [c7 k hk]
      obtain ⟨o1, o2, -⟩ := o_ok hf
      exact bsf_c (fun k hk => b7 k hk) (fun j hj => ⟨rfl, rfl, (o2 j (by omega)).1⟩) k hk
    · rw [c4 8 (by decide) (by decide) (by decide), b1]
    · rw [c1, oH_t hs]
    · rw [c2, oH_t hs]
  · rw [bz_f hs] at hpre
    rw [oN_f hs, oH_f hs, oH_f hs, oH_f hs]
    rw [oH_f hs] at b1
    refine ⟨M4, hpre _ ?_, fr4, ⟨?_, ?_, ?_, ?_, ?_⟩, ?_, ?_, ?_, e449, b4, b7, b6, b1, b2, b3, fun j hj => by omega⟩
    · rw [← b6]
      refine i_iload rfl rfl ?_
      refine i_if_eq_t rfl (by first | omega | assumption) ?_
      refine i_aload_n rfl rfl ?_
      refine i_getr rfl rfl rfl rfl (by decide) rfl ?_
      refine i_iconst (n := 0) rfl (by unfold iR; omega) ?_
      refine i_iald rfl rfl (by first | omega | assumption) (by first | omega | assumption) (by decide) ?_
      -- at 196
      exact i_ireturn rfl rfl
    · rw [b5 1 (by decide) (by decide) (by decide) (by decide), a1]
    · rw [b5 12 (by decide) (by decide) (by decide) (by decide), a2]
    · rw [b5 13 (by decide) (by decide) (by decide) (by decide), a3]
    · rw [b5 14 (by decide) (by decide) (by decide) (by decide), a4]
    · rw [b5 15 (by decide) (by decide) (by decide) (by decide), a5]
    · rw [b5 2 (by decide) (by decide) (by decide) (by decide), a6]
    · rw [b5 3 (by decide) (by decide) (by decide) (by decide), a7]
    · rw [b5 41 (by decide) (by decide) (by decide) (by decide), a8]
theorem o_open {w : Int} {b : Bool} {M : iM} (h : Inv w b M) : Op w b M zp_12 zp_140 [] := by
  obtain ⟨⟨i1, i2, i3⟩, ⟨j1, j2, j3, j4, j5, j6, j7, j8⟩, -, -, -, -, -, ⟨l1, l2, l3⟩, l4⟩ := h
  have e : M 2 = M 41 := funext i2
  have hf : by8 (M 2) 720 := by rw [e]; exact i1
  obtain ⟨o1, o2, o3, o4⟩ := o_ok i1
  obtain ⟨b', M1, h1, f1, a1, ⟨a2, a3, a4, a5⟩, a6, a7, a8, a9, a10, a11, a12, a13, a14⟩ := c_open (b := b) (M := M) hf i3
  rw [e] at h1 a8 a9 a10 a11 a12 a13 a14
  have e1 : M1 41 = M 41 := f1 41 (by decide)
  obtain ⟨M2, h2, f2, ⟨c1, c2, c3, c4, c5⟩, c6, c7, c8, c9, c10, c11, c12, c13, c14, c15, c16⟩ := d_open (b := b') (M := M1) (by rw [e1]; exact i1)
  rw [e1] at h2 c10 c11 c12 c13 c14 c15 c16
  have z10 : M2 10 = zz (M 10) := (f2 10 (by decide)).trans a6
  have z49 : M2 49 = zz (M 49) := by rw [c9, f1 49 (by decide)]
  have z5 : M2 5 = M1 5 := f2 5 (by decide)
  have z1 : M2 1 = va_up (M 1) 4 0 := (f2 1 (by decide)).trans a1
  have z0 : M2 0 = M1 0 := f2 0 (by decide)
  have z40 : M1 40 = M 40 := f1 40 (by decide)
  have z32 : M2 32 = M1 32 := f2 32 (by decide)
  have z41 : M2 41 = M 41 := (f2 41 (by decide)).trans e1
  have z2 : M2 2 = M 2 := (f2 2 (by decide)).trans (f1 2 (by decide))
  have z3 : M2 3 = M 3 := (f2 3 (by decide)).trans (f1 3 (by decide))
  have z62 : M2 62 = M 62 := (f2 62 (by decide)).trans (f1 62 (by decide))
  have z35 : M2 35 = M 35 := (f2 35 (by decide)).trans (f1 35 (by decide))
  have zi : M2 (pI b') = M1 (pI b') := f2 _ (by cases b' <;> decide)
  have zj : M2 (pI b' + 1) = M1 (pI b' + 1) := f2 _ (by cases b' <;> decide)
  rw [z40] at c6 c7 c8
  have q10 : ∀ k, k < 10 → zz (M 10) k = 0 := fun k hk => by show (if k < 10 then _ else _) = _; rw [if_pos hk]
  have q49 : ∀ k, k < 10 → zz (M 49) k = 0 := fun k hk => by show (if k < 10 then _ else _) = _; rw [if_pos hk]
  refine ⟨oN (M 41), b', M1, M2, h1, h2, ⟨?_, ?_, ?_⟩, ⟨?_, ?_, ?_, ?_, ?_, ?_, ?_, ?_⟩, ⟨?_, ?_, ?_, ?_, ?_, ⟨?_, ?_⟩, ⟨?_, ?_⟩, ⟨?_, ?_⟩, ?_⟩, ⟨⟨?_, ?_⟩, ?_⟩, ⟨⟨?_, ?_⟩, ?_⟩, ⟨⟨?_, ?_⟩, ⟨?_, ?_⟩, ?_, ?_⟩, ⟨⟨?_, ?_⟩, ?_⟩, ⟨?_, ?_⟩, ?_⟩
  · rw [z41]; exact i1
  · rw [z2, z41]; exact i2
  · rw [z3]; exact i3
  · rw [z1]; exact Or.inl rfl
  · rw [c1, z1]; rfl
  · rw [c6]; exact j3
  · rw [c7]; exact j4
  · rw [c7]; exact j5
  · rw [c6, c7, z1]; exact j6
  · rw [z1]; exact j7
  · rw [z1]
    show M 1 5 ≤ w + 300
    omega
  · rw [zi, a10]; exact o1
  · rw [zi, a10, c12]
  · intro k hk
    rw [zi, a10] at hk
    rw [zj, c16 k hk, a14 k hk]
  · intro k hk
    rw [zi, a10] at hk
    have := o2 k hk
    unfold Ent at this ⊢
    rw [zj, a14 _ (by omega), a14 _ (by omega), a14 _ (by omega), a14 _ (by omega), a14 _ (by omega), a14 _ (by omega), a14 _ (by omega)]
    exact this
  · intro k hk
    rw [zi, a10] at hk
    rw [zj, a14 _ (by omega), a14 _ (by omega), a14 _ (by omega), a14 _ (by omega)]
    exact o3 k hk
  · rw [c13, zi, a11]
  · rw [zi, a11]; exact o4 2 (by decide)
  · rw [c14, zi, a12]
  · rw [zi, a12]; exact o4 3 (by decide)
  · rw [c15, zi, a13]
  · rw [zi, a13]; exact o4 4 (by decide)
  · intro k hk
    rw [zi, a10] at hk
    have hb := (o2 k hk).1
    rw [zj, a14 _ (by omega), a14 _ (by omega), z32, a9 _ (by omega)]
    exact bsf_ge (by omega)
  · rw [c10, z0, a8]
  · rw [z0, a8]
    exact mxt_b (by decide) (fun j hj => (o2 j (by omega)).2.2.2.2.2.2.2.2)
  · intro k hk
    rw [c11 k hk, z32, a9 k hk]
    exact ⟨rfl, bsf_b (fun _ _ => by omega) (fun j hj => ⟨(o2 j (by omega)).2.1.2, (o2 j (by omega)).1⟩) k hk⟩
  · rw [c2, z5, a2]
  · rw [z5, a2]; decide
  · intro k hk
    rw [z5, a2] at hk
    omega
  · rw [c3, z5, a3]
  · rw [z5, a3]; decide
  · rw [c4, z5, a4]
  · rw [z5, a3, a4]; rfl
  · intro k hk
    rw [z5, a3] at hk
    omega
  · intro k hk
    rw [z5, a4] at hk
    omega
  · rw [c5, z5, a5]
  · rw [z5, a5, z10]
    exact (sm_0 q10).symm
  · intro k hk
    rw [z49, z10, q10 k hk, q49 k hk]
    exact ⟨rfl, Or.inl rfl, fun _ => rfl⟩
  · rw [c8, z0, a7]; exact l1
  · rw [z0, a7]; exact ⟨l2, l3⟩
  · intro k hk
    rw [z0, a7] at hk
    rw [z62, z35]
    exact l4 k hk
