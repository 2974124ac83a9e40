def ob {α : Type} (o : Option α) : Int := match o with
  | some _ => 1
  | none => 0
def st0 (B : Nat → Int) (m all : Nat) : Option (Nat → Int) := if all ≤ m then some (fun j => nv B (8 * j) 8) else none
theorem BS_tk {M : iM} {B : Nat → Int} {m a n : Nat} (h : BS M B m a) : BS (va_up M 28 (va_up (M 28) 2 ((a + n : Nat) : Int))) B m (a + n) := ⟨h.1, rfl, h.2.2⟩
theorem BS_31 {M : iM} {B f : Nat → Int} {m a : Nat} (h : BS M B m a) : BS (va_up M 31 f) B m a := h
set_option maxRecDepth 100000 in
theorem c_stored {b : Bool} {M : iM} {B : Nat → Int} {m all : Nat} (hB : BS M B m 0) (hm : m ≤ 256) (ha : all ≤ 255) : ∃ M', irun none zp_84 0 (i_ent [iP 13, iP 28, iP 31, iI (all : Int)] 5) [] (SH b) M 0 0 (some (ob (st0 B m all)), SH b, M') ∧ Fr [28, 31] M M' ∧ ∀ R, st0 B m all = some R → ∀ j, j < all → M' 31 j = R j ∧ 0 ≤ R j ∧ R j < 256 := by
  have loop : ∀ (c i : Nat), i + c = all → ∀ M1 : iM, BS M1 B m (8 * i) → i ≤ m → (∀ j, j < i → M1 31 j = nv B (8 * j) 8) → ∃ M', irun none zp_84 3 [some (iP 13), some (iP 28), some (iP 31), some (iI (all : Int)), some (iI (i : Int))] [] (SH b) M1 0 0 (some (ob (st0 B m all)), SH b, M') ∧ Fr [28, 31] M1 M' ∧ ∀ R, st0 B m all = some R → ∀ j, j < all → M' 31 j = R j ∧ 0 ≤ R j ∧ R j < 256 := by
    intro c
    induction c with
    | zero =>
      intro i hi M1 h1 h2 h3
      obtain rfl : i = all := by omega
      have e : st0 B m i = some (fun j => nv B (8 * j) 8) := by unfold st0; rw [if_pos h2]
      refine ⟨M1, ?_, Fr_r _ _, fun R hR j hj => ?_⟩
      · rw [e]
        refine i_iload rfl rfl ?_
        refine i_iload_n rfl rfl ?_
        refine i_icmp_ge_t rfl (by first | omega | assumption) ?_
        refine i_iconst (n := 1) rfl (by unfold iR; omega) ?_
        -- at 36
        exact i_zreturn rfl rfl (by first | omega | assumption)
      · rw [e] at hR
        cases hR
        have := nv_b B (8 * j) 8
        exact ⟨h3 j hj, this.1, this.2⟩
    | succ c ih =>
      intro i hi M1 h1 h2 h3
      by_cases e : i < m
      · have ht := c_take (b := b) (n := 8) h1 hm (by decide) (by omega)
        have v := nv_b B (8 * i) 8
        obtain ⟨M', g1, g2, g3⟩ := ih (i + 1) (by omega) (va_up (va_up M1 28 (va_up (M1 28) 2 ((8 * i + 8 : Nat) : Int))) 31 (va_up (M1 31) i (nv B (8 * i) 8))) ⟨h1.1, rfl, h1.2.2⟩ (by omega) (fun j hj => by
          show va_up (M1 31) i _ j = _
          by_cases e2 : j = i
          · rw [e2, up_s]
          · rw [up_n e2]
            exact h3 j (by omega))
        refine ⟨M', ?_, Fr_t (Fr_up (Fr_up (Fr_r _ _) (by decide)) (by decide)) g2 (by decide), g3⟩
        refine i_iload rfl rfl ?_
        refine i_iload_n rfl rfl ?_
        refine i_icmp_ge_f rfl (by first | omega | assumption) ?_
        refine i_aload_n rfl rfl ?_
        refine i_iload rfl rfl ?_
        refine i_aload_n rfl rfl ?_
        refine i_bipush (n := 8) rfl (by unfold iR; omega) (by decide) ?_
        -- at 15
        refine i_call (T := (81, zp_81)) rfl rfl (ht) rfl rfl rfl rfl rfl rfl rfl ?_
        try dsimp only
        show irun none zp_84 18 _ (iI (nv B (8 * i) 8) :: _) _ _ 0 0 _
        refine i_iast rfl rfl (by first | omega | assumption) (by first | omega | assumption) ?_
        refine i_aload_n rfl rfl ?_
        refine i_iload rfl rfl ?_
        refine i_iald rfl rfl (by first | omega | assumption) (by first | omega | assumption) (by decide) ?_
        -- at 23
        rw [show (i : Int).toNat = i by omega]
        show irun none zp_84 23 _ (iI (va_up (M1 31) i (nv B (8 * i) 8) i) :: _) _ _ 0 0 _
        rw [up_s]
        refine i_iconst (n := -1) rfl (by unfold iR; omega) ?_
        refine i_icmp_ne_t rfl (by first | omega | assumption) ?_
        refine i_iinc rfl rfl (by unfold iR; omega) (Nat.le_of_ble_eq_true rfl) rfl ?_
        refine i_goto rfl ?_
        -- at 3
        exact g1
      · have ht := c_takeF (b := b) (n := 8) h1 hm (by omega) (by decide) (by omega)
        have e3 : st0 B m all = none := by unfold st0; rw [if_neg (by omega)]
        rw [e3]
        refine ⟨i_st M1 31 i (-1), ?_, Fr_st (Fr_r _ _) (by decide), fun R hR => by cases hR⟩
        refine i_iload rfl rfl ?_
        refine i_iload_n rfl rfl ?_
        refine i_icmp_ge_f rfl (by first | omega | assumption) ?_
        refine i_aload_n rfl rfl ?_
        refine i_iload rfl rfl ?_
        refine i_aload_n rfl rfl ?_
        refine i_bipush (n := 8) rfl (by unfold iR; omega) (by decide) ?_
        -- at 15
        refine i_call (T := (81, zp_81)) rfl rfl (ht) rfl rfl rfl rfl rfl rfl rfl ?_
        try dsimp only
        show irun none zp_84 18 _ (iI (-1) :: _) _ _ 0 0 _
        refine i_iast rfl rfl (by first | omega | assumption) (by first | omega | assumption) ?_
        refine i_aload_n rfl rfl ?_
        refine i_iload rfl rfl ?_
        refine i_iald rfl rfl (by first | omega | assumption) (by first | omega | assumption) (by decide) ?_
        -- at 23
        rw [show (i : Int).toNat = i by omega]
        show irun none zp_84 23 _ (iI (va_up (M1 31) i (-1) i) :: _) _ _ 0 0 _
        rw [up_s]
        refine i_iconst (n := -1) rfl (by unfold iR; omega) ?_
        refine i_icmp_ne_f rfl (by first | omega | assumption) ?_
        refine i_iconst (n := 0) rfl (by unfold iR; omega) ?_
        -- at 28
        exact i_zreturn rfl rfl (by first | omega | assumption)
  obtain ⟨M', g1, g2, g3⟩ := loop all 0 (by omega) M hB (by omega) (fun j hj => by omega)
  refine ⟨M', ?_, g2, g3⟩
  refine i_iconst (n := 0) rfl (by unfold iR; omega) ?_
  refine i_istore rfl (Nat.le_of_ble_eq_true rfl) rfl ?_
  -- at 3
  exact g1
def mcp (R : Nat → Int) (d t : Nat) : Nat → Nat → Int
  | 0 => R
  | n + 1 => va_up (mcp R d t n) (d + n) (mcp R d t n (d + n - t))
theorem mcp_n {R : Nat → Int} {d t : Nat} : ∀ {n j : Nat}, j < d → mcp R d t n j = R j := by
  intro n
  induction n with
  | zero => intro j _; rfl
  | succ n ih =>
    intro j hj
    unfold mcp
    rw [up_n (by omega)]
    exact ih hj
theorem mcp_c {R S : Nat → Int} {d t : Nat} (ht : 1 ≤ t) (htd : t ≤ d) (h : ∀ j, j < d → R j = S j ∧ 0 ≤ S j ∧ S j < 256) : ∀ {n j : Nat}, j < d + n → mcp R d t n j = mcp S d t n j ∧ 0 ≤ mcp S d t n j ∧ mcp S d t n j < 256 := by
  intro n
  induction n with
  | zero => intro j hj; exact h j hj
  | succ n ih =>
    intro j hj
    unfold mcp
    by_cases e : j = d + n
    · rw [e, up_s, up_s]
      exact ih (by omega)
    · rw [up_n e, up_n e]
      exact ih (by omega)
def mst (B : Nat → Int) (m all d a : Nat) (R : Nat → Int) : Option (Nat × Nat × (Nat → Int)) :=
  if a < 8 * m ∧ bt B a = 1 then
    (if a + 8 ≤ 8 * m ∧ nv B (a + 1) 4 + 1 ≤ d ∧ d + (nv B (a + 5) 3 + 2) ≤ all then some (d + ((nv B (a + 5) 3).toNat + 2), a + 8, mcp R d ((nv B (a + 1) 4).toNat + 1) ((nv B (a + 5) 3).toNat + 2)) else none)
  else (if a + 9 ≤ 8 * m then some (d + 1, a + 9, va_up R d (nv B (a + 1) 8)) else none)
def mrn (B : Nat → Int) (m all : Nat) : Nat → Nat → Nat → (Nat → Int) → Option (Nat → Int)
  | 0, d, _, R => if d < all then none else some R
  | c + 1, d, a, R => if d < all then (match mst B m all d a R with
    | none => none
    | some s => mrn B m all c s.1 s.2.1 s.2.2) else some R
theorem mrn_e {B : Nat → Int} {m all c d a : Nat} {R : Nat → Int} (h : ¬ d < all) : mrn B m all c d a R = some R := by
  cases c <;> unfold mrn <;> rw [if_neg h]
theorem mrn_n {B : Nat → Int} {m all c d a : Nat} {R : Nat → Int} (h : d < all) (h2 : mst B m all d a R = none) : mrn B m all (c + 1) d a R = none := by
  unfold mrn
  rw [if_pos h, h2]
theorem mrn_s {B : Nat → Int} {m all c d a d' a' : Nat} {R R' : Nat → Int} (h : d < all) (h2 : mst B m all d a R = some (d', a', R')) : mrn B m all (c + 1) d a R = mrn B m all c d' a' R' := by
  conv => lhs; unfold mrn
  rw [if_pos h, h2]
set_option maxRecDepth 100000 in
theorem c_tbyte {b : Bool} {M : iM} {B : Nat → Int} {m a d : Nat} (hB : BS M B m a) (hm : m ≤ 256) (hd : d < 256) (h : a + 8 ≤ 8 * m) : irun none zp_90 0 (i_ent [iP 28, iP 31, iI (d : Int)] 4) [] (SH b) M 0 0 (some ((d + 1 : Nat) : Int), SH b, va_up (va_up M 28 (va_up (M 28) 2 ((a + 8 : Nat) : Int))) 31 (va_up (M 31) d (nv B a 8))) := by
  have ht := c_take (b := b) (n := 8) hB hm (by decide) h
  have v := nv_b B a 8
  refine i_aload_n rfl rfl ?_
  refine i_bipush (n := 8) rfl (by unfold iR; omega) (by decide) ?_
  -- at 3
  refine i_call (T := (81, zp_81)) rfl rfl (ht) rfl rfl rfl rfl rfl rfl rfl ?_
  try dsimp only
  show irun none zp_90 6 _ (iI (nv B a 8) :: _) _ _ 0 0 _
  refine i_istore_n rfl (Nat.le_of_ble_eq_true rfl) rfl ?_
  refine i_iload_n rfl rfl ?_
  refine i_iconst (n := -1) rfl (by unfold iR; omega) ?_
  refine i_icmp_ne_t rfl (by first | omega | assumption) ?_
  refine i_aload_n rfl rfl ?_
  refine i_iload_n rfl rfl ?_
  refine i_iload_n rfl rfl ?_
  refine i_iast rfl rfl (by first | omega | assumption) (by first | omega | assumption) ?_
  refine i_iload_n rfl rfl ?_
  refine i_iconst (n := 1) rfl (by unfold iR; omega) ?_
  refine i_iadd rfl (by unfold iR; omega) ?_
  -- at 21
  rw [show (d : Int).toNat = d by omega]
  exact i_ireturn rfl rfl
set_option maxRecDepth 100000 in
theorem c_tbyteF {b : Bool} {M : iM} {B : Nat → Int} {m a d : Nat} (hB : BS M B m a) (hm : m ≤ 256) (ha : a ≤ 8 * m) (hd : d < 256) (h : 8 * m < a + 8) : irun none zp_90 0 (i_ent [iP 28, iP 31, iI (d : Int)] 4) [] (SH b) M 0 0 (some (-1), SH b, M) := by
  have ht := c_takeF (b := b) (n := 8) hB hm ha (by decide) h
  refine i_aload_n rfl rfl ?_
  refine i_bipush (n := 8) rfl (by unfold iR; omega) (by decide) ?_
  -- at 3
  refine i_call (T := (81, zp_81)) rfl rfl (ht) rfl rfl rfl rfl rfl rfl rfl ?_
  try dsimp only
  show irun none zp_90 6 _ (iI (-1) :: _) _ _ 0 0 _
  refine i_istore_n rfl (Nat.le_of_ble_eq_true rfl) rfl ?_
  refine i_iload_n rfl rfl ?_
  refine i_iconst (n := -1) rfl (by unfold iR; omega) ?_
  refine i_icmp_ne_f rfl (by first | omega | assumption) ?_
  refine i_iconst (n := -1) rfl (by unfold iR; omega) ?_
  -- at 13
  exact i_ireturn rfl rfl
theorem nv_7 (B : Nat → Int) (a : Nat) : nv B a 7 = nv B a 4 * 8 + nv B (a + 4) 3 := nv_add B a 4 3
set_option maxRecDepth 100000 in
theorem c_tmatch {b : Bool} {M : iM} {B : Nat → Int} {m a d all : Nat} (hB : BS M B m a) (hm : m ≤ 256) (hd : d ≤ all) (hall : all ≤ 255) (h : a + 7 ≤ 8 * m) (h1 : nv B a 4 + 1 ≤ d) (h2 : d + (nv B (a + 4) 3 + 2) ≤ all) : irun none zp_91 0 (i_ent [iP 28, iP 31, iI (d : Int), iI (all : Int)] 8) [] (SH b) M 0 0 (some ((d + ((nv B (a + 4) 3).toNat + 2) : Nat) : Int), SH b, va_up (va_up M 28 (va_up (M 28) 2 ((a + 7 : Nat) : Int))) 31 (mcp (M 31) d ((nv B a 4).toNat + 1) ((nv B (a + 4) 3).toNat + 2))) := by
  have ht := c_take (b := b) (n := 7) hB hm (by decide) h
  have v7 := nv_7 B a
  have v4 := nv_b B a 4
  have v3 := nv_b B (a + 4) 3
  obtain ⟨t, et⟩ := Int.eq_ofNat_of_zero_le v4.1
  obtain ⟨l, el⟩ := Int.eq_ofNat_of_zero_le v3.1
  rw [et, el] at v7
  rw [et] at h1 v4 ⊢
  rw [el] at h2 v3 ⊢
  have v4b : (t : Int) < 16 := v4.2
  have v3b : (l : Int) < 8 := v3.2
  rw [show ((t : Int)).toNat = t by omega, show ((l : Int)).toNat = l by omega]
  have loop : ∀ (c i : Nat), i + c = l + 2 → irun none zp_91 52 [some (iP 28), some (iP 31), some (iI (d : Int)), some (iI (all : Int)), some (iI (nv B a 7)), some (iI ((t : Int) + 1)), some (iI ((d : Int) + l + 2)), some (iI ((d + i : Nat) : Int))] [] (SH b) (va_up (va_up M 28 (va_up (M 28) 2 ((a + 7 : Nat) : Int))) 31 (mcp (M 31) d (t + 1) i)) 0 0 (some ((d + (l + 2) : Nat) : Int), SH b, va_up (va_up M 28 (va_up (M 28) 2 ((a + 7 : Nat) : Int))) 31 (mcp (M 31) d (t + 1) (l + 2))) := by
    intro c
    induction c with
    | zero =>
      intro i hi
      obtain rfl : i = l + 2 := by omega
      rw [show ((d + (l + 2) : Nat) : Int) = (d : Int) + l + 2 by omega]
      refine i_iload rfl rfl ?_
      refine i_iload rfl rfl ?_
      refine i_icmp_ge_t rfl (by first | omega | assumption) ?_
      refine i_iload rfl rfl ?_
      -- at 78
      exact i_ireturn rfl rfl
    | succ c ih =>
      intro i hi
      have hnx := ih (i + 1) (by omega)
      refine i_iload rfl rfl ?_
      refine i_iload rfl rfl ?_
      refine i_icmp_ge_f rfl (by first | omega | assumption) ?_
      refine i_aload_n rfl rfl ?_
      refine i_iload rfl rfl ?_
      refine i_aload_n rfl rfl ?_
      refine i_iload rfl rfl ?_
      refine i_iload rfl rfl ?_
      refine i_isub rfl (by unfold iR; omega) ?_
      refine i_iald rfl rfl (by first | omega | assumption) (by first | omega | assumption) (by decide) ?_
      -- at 69
      rw [show (((d + i : Nat) : Int) - ((t : Int) + 1)).toNat = d + i - (t + 1) by omega]
      show irun none zp_91 69 _ (iI (mcp (M 31) d (t + 1) i (d + i - (t + 1))) :: _) _ _ 0 0 _
      refine i_iast rfl rfl (by first | omega | assumption) (by first | omega | assumption) ?_
      refine i_iinc rfl rfl (by unfold iR; omega) (Nat.le_of_ble_eq_true rfl) rfl ?_
      refine i_goto rfl ?_
      -- at 52
      rw [show ((d + i : Nat) : Int).toNat = d + i by omega, st_up (g := mcp (M 31) d (t + 1) (i + 1)) rfl]
      exact hnx
  have h0 := loop (l + 2) 0 (by omega)
  rw [show va_up (va_up M 28 (va_up (M 28) 2 ((a + 7 : Nat) : Int))) 31 (mcp (M 31) d (t + 1) 0) = va_up M 28 (va_up (M 28) 2 ((a + 7 : Nat) : Int)) from up_id _ 31 rfl] at h0
  refine i_aload_n rfl rfl ?_
  refine i_bipush (n := 7) rfl (by unfold iR; omega) (by decide) ?_
  -- at 3
  refine i_call (T := (81, zp_81)) rfl rfl (ht) rfl rfl rfl rfl rfl rfl rfl ?_
  try dsimp only
  show irun none zp_91 6 _ (iI (nv B a 7) :: _) _ _ 0 0 _
  refine i_istore rfl (Nat.le_of_ble_eq_true rfl) rfl ?_
  refine i_iload rfl rfl ?_
  refine i_iconst (n := -1) rfl (by unfold iR; omega) ?_
  refine i_icmp_ne_t rfl (by first | omega | assumption) ?_
  refine i_iload rfl rfl ?_
  refine i_iconst (n := 3) rfl (by unfold iR; omega) ?_
  refine i_ishr rfl (by first | omega | assumption) (by first | omega | assumption) ?_
  -- at 20
  show irun none zp_91 20 _ (iI (nv B a 7 / 8) :: _) _ _ 0 0 _
  rw [show nv B a 7 / 8 = (t : Int) by omega]
  refine i_iconst (n := 1) rfl (by unfold iR; omega) ?_
  refine i_iadd rfl (by unfold iR; omega) ?_
  refine i_istore rfl (Nat.le_of_ble_eq_true rfl) rfl ?_
  refine i_iload_n rfl rfl ?_
  refine i_iload rfl rfl ?_
  refine i_bipush (n := 7) rfl (by unfold iR; omega) (by decide) ?_
  refine i_iand 3 rfl (by decide) (by decide) ?_
  -- at 30
  show irun none zp_91 30 _ (iI (nv B a 7 % 8) :: _) _ _ 0 0 _
  rw [show nv B a 7 % 8 = (l : Int) by omega]
  refine i_iadd rfl (by unfold iR; omega) ?_
  refine i_iconst (n := 2) rfl (by unfold iR; omega) ?_
  refine i_iadd rfl (by unfold iR; omega) ?_
  refine i_istore rfl (Nat.le_of_ble_eq_true rfl) rfl ?_
  refine i_iload rfl rfl ?_
  refine i_iload_n rfl rfl ?_
  refine i_icmp_gt_f rfl (by first | omega | assumption) ?_
  refine i_iload rfl rfl ?_
  refine i_iload_n rfl rfl ?_
  refine i_icmp_le_t rfl (by first | omega | assumption) ?_
  refine i_iload_n rfl rfl ?_
  refine i_istore rfl (Nat.le_of_ble_eq_true rfl) rfl ?_
  -- at 52
  exact h0
set_option maxRecDepth 100000 in
theorem c_tmatchF {b : Bool} {M : iM} {B : Nat → Int} {m a d all : Nat} (hB : BS M B m a) (hm : m ≤ 256) (ha : a ≤ 8 * m) (hd : d ≤ all) (hall : all ≤ 255) (h : ¬ (a + 7 ≤ 8 * m ∧ nv B a 4 + 1 ≤ d ∧ d + (nv B (a + 4) 3 + 2) ≤ all)) : ∃ Q, irun none zp_91 0 (i_ent [iP 28, iP 31, iI (d : Int), iI (all : Int)] 8) [] (SH b) M 0 0 (some (-1), SH b, va_up M 28 Q) := by
  by_cases h7 : a + 7 ≤ 8 * m
  · have ht := c_take (b := b) (n := 7) hB hm (by decide) h7
    refine ⟨va_up (M 28) 2 ((a + 7 : Nat) : Int), ?_⟩
    · have v7 := nv_7 B a
      have v4 := nv_b B a 4
      have v3 := nv_b B (a + 4) 3
      obtain ⟨t, et⟩ := Int.eq_ofNat_of_zero_le v4.1
      obtain ⟨l, el⟩ := Int.eq_ofNat_of_zero_le v3.1
      rw [et, el] at v7 h
      rw [et] at v4
      rw [el] at v3
      have v4b : (t : Int) < 16 := v4.2
      have v3b : (l : Int) < 8 := v3.2
      refine i_aload_n rfl rfl ?_
      refine i_bipush (n := 7) rfl (by unfold iR; omega) (by decide) ?_
      -- at 3
      refine i_call (T := (81, zp_81)) rfl rfl (ht) rfl rfl rfl rfl rfl rfl rfl ?_
      try dsimp only
      show irun none zp_91 6 _ (iI (nv B a 7) :: _) _ _ 0 0 _
      refine i_istore rfl (Nat.le_of_ble_eq_true rfl) rfl ?_
      refine i_iload rfl rfl ?_
      refine i_iconst (n := -1) rfl (by unfold iR; omega) ?_
      refine i_icmp_ne_t rfl (by first | omega | assumption) ?_
      refine i_iload rfl rfl ?_
      refine i_iconst (n := 3) rfl (by unfold iR; omega) ?_
      refine i_ishr rfl (by first | omega | assumption) (by first | omega | assumption) ?_
      -- at 20
      show irun none zp_91 20 _ (iI (nv B a 7 / 8) :: _) _ _ 0 0 _
      rw [show nv B a 7 / 8 = (t : Int) by omega]
      refine i_iconst (n := 1) rfl (by unfold iR; omega) ?_
      refine i_iadd rfl (by unfold iR; omega) ?_
      refine i_istore rfl (Nat.le_of_ble_eq_true rfl) rfl ?_
      refine i_iload_n rfl rfl ?_
      refine i_iload rfl rfl ?_
      refine i_bipush (n := 7) rfl (by unfold iR; omega) (by decide) ?_
      refine i_iand 3 rfl (by decide) (by decide) ?_
      -- at 30
      show irun none zp_91 30 _ (iI (nv B a 7 % 8) :: _) _ _ 0 0 _
      rw [show nv B a 7 % 8 = (l : Int) by omega]
      by_cases c1 : (d : Int) < t + 1
      · refine i_iadd rfl (by unfold iR; omega) ?_
        refine i_iconst (n := 2) rfl (by unfold iR; omega) ?_
        refine i_iadd rfl (by unfold iR; omega) ?_
        refine i_istore rfl (Nat.le_of_ble_eq_true rfl) rfl ?_
        refine i_iload rfl rfl ?_
        refine i_iload_n rfl rfl ?_
        refine i_icmp_gt_t rfl (by first | omega | assumption) ?_
        refine i_iconst (n := -1) rfl (by unfold iR; omega) ?_
        -- at 48
        exact i_ireturn rfl rfl
      · refine i_iadd rfl (by unfold iR; omega) ?_
        refine i_iconst (n := 2) rfl (by unfold iR; omega) ?_
        refine i_iadd rfl (by unfold iR; omega) ?_
        refine i_istore rfl (Nat.le_of_ble_eq_true rfl) rfl ?_
        refine i_iload rfl rfl ?_
        refine i_iload_n rfl rfl ?_
        refine i_icmp_gt_f rfl (by first | omega | assumption) ?_
        refine i_iload rfl rfl ?_
        refine i_iload_n rfl rfl ?_
        refine i_icmp_le_f rfl (by first | omega | assumption) ?_
        refine i_iconst (n := -1) rfl (by unfold iR; omega) ?_
        -- at 48
        exact i_ireturn rfl rfl
  · have ht := c_takeF (b := b) (n := 7) hB hm ha (by decide) (by omega)
    refine ⟨M 28, ?_⟩
    rw [up_id M 28 rfl]
    refine i_aload_n rfl rfl ?_
    refine i_bipush (n := 7) rfl (by unfold iR; omega) (by decide) ?_
    -- at 3
    refine i_call (T := (81, zp_81)) rfl rfl (ht) rfl rfl rfl rfl rfl rfl rfl ?_
    try dsimp only
    show irun none zp_91 6 _ (iI (-1) :: _) _ _ 0 0 _
    refine i_istore rfl (Nat.le_of_ble_eq_true rfl) rfl ?_
    refine i_iload rfl rfl ?_
    refine i_iconst (n := -1) rfl (by unfold iR; omega) ?_
    refine i_icmp_ne_f rfl (by first | omega | assumption) ?_
    refine i_iconst (n := -1) rfl (by unfold iR; omega) ?_
    -- at 15
    exact i_ireturn rfl rfl
set_option maxRecDepth 100000 in
theorem c_matchesL {b : Bool} {B : Nat → Int} {m all p : Nat} (hm : m ≤ 256) (hall : all ≤ 255) : ∀ (c d a : Nat) (R : Nat → Int) (l5 : Option iV) (M : iM), all ≤ d + c → d ≤ all → a ≤ 8 * m → BS M B m a → (∀ j, j < d → M 31 j = R j ∧ 0 ≤ R j ∧ R j < 256) →
    ∃ M', irun none zp_89 3 [some (iP p), some (iP 28), some (iP 31), some (iI (all : Int)), some (iI (d : Int)), l5] [] (SH b) M 0 0 (some (ob (mrn B m all c d a R)), SH b, M') ∧ Fr [28, 31] M M' ∧ ∀ R', mrn B m all c d a R = some R' → ∀ j, j < all → M' 31 j = R' j ∧ 0 ≤ R' j ∧ R' j < 256 := by
  have done : ∀ (c d a : Nat) (R : Nat → Int) (l5 : Option iV) (M : iM), ¬ d < all → d ≤ all → (∀ j, j < d → M 31 j = R j ∧ 0 ≤ R j ∧ R j < 256) → ∃ M', irun none zp_89 3 [some (iP p), some (iP 28), some (iP 31), some (iI (all : Int)), some (iI (d : Int)), l5] [] (SH b) M 0 0 (some (ob (mrn B m all c d a R)), SH b, M') ∧ Fr [28, 31] M M' ∧ ∀ R', mrn B m all c d a R = some R' → ∀ j, j < all → M' 31 j = R' j ∧ 0 ≤ R' j ∧ R' j < 256 := by
    intro c d a R l5 M h1 h2 h3
    rw [mrn_e h1]
    refine ⟨M, ?_, Fr_r _ _, fun R' hR j hj => ?_⟩
    · refine i_iload rfl rfl ?_
      refine i_iload_n rfl rfl ?_
      refine i_icmp_ge_t rfl (by first | omega | assumption) ?_
      refine i_iconst (n := 1) rfl (by unfold iR; omega) ?_
      -- at 55
      exact i_zreturn rfl rfl (by first | omega | assumption)
    · cases hR
      exact h3 j (by omega)
  intro c
  induction c with
  | zero =>
    intro d a R l5 M h1 h2 h3 h4 h5
    exact done 0 d a R l5 M (by omega) h2 h5
  | succ c ih =>
    intro d a R l5 M h1 h2 h3 h4 h5
    by_cases hd : d < all
    · by_cases hbit : a < 8 * m ∧ bt B a = 1
      · have ht := c_take (b := b) (n := 1) h4 hm (by decide) (by omega)
        rw [show nv B a 1 = 2 * 0 + bt B a from rfl, hbit.2] at ht
        have h4' := BS_tk (n := 1) h4
        by_cases hk : a + 8 ≤ 8 * m ∧ nv B (a + 1) 4 + 1 ≤ d ∧ d + (nv B (a + 5) 3 + 2) ≤ all
        · have hms : mst B m all d a R = some (d + ((nv B (a + 5) 3).toNat + 2), a + 8, mcp R d ((nv B (a + 1) 4).toNat + 1) ((nv B (a + 5) 3).toNat + 2)) := by
            unfold mst
            rw [if_pos hbit, if_pos hk]
          have v3 := nv_b B (a + 5) 3
          have v4 := nv_b B (a + 1) 4
          have hm2 := c_tmatch (b := b) (all := all) h4' hm h2 hall (by omega) hk.2.1 hk.2.2
          rw [show a + 1 + 4 = a + 5 from rfl, show a + 1 + 7 = a + 8 from rfl] at hm2
          obtain ⟨M', g1, g2, g3⟩ := ih (d + ((nv B (a + 5) 3).toNat + 2)) (a + 8) (mcp R d ((nv B (a + 1) 4).toNat + 1) ((nv B (a + 5) 3).toNat + 2)) (some (iI ((d + ((nv B (a + 5) 3).toNat + 2) : Nat) : Int))) (va_up (va_up (va_up M 28 (va_up (M 28) 2 ((a + 1 : Nat) : Int))) 28 (va_up (va_up (M 28) 2 ((a + 1 : Nat) : Int)) 2 ((a + 8 : Nat) : Int))) 31 (mcp (M 31) d ((nv B (a + 1) 4).toNat + 1) ((nv B (a + 5) 3).toNat + 2))) (by omega) (by omega) (by omega) ⟨h4.1, rfl, h4.2.2⟩ (fun j hj => mcp_c (by omega) (by omega) h5 hj)
          rw [mrn_s hd hms]
          refine ⟨M', ?_, Fr_t (Fr_up (Fr_up (Fr_up (Fr_r _ _) (by decide)) (by decide)) (by decide)) g2 (by decide), g3⟩
          refine i_iload rfl rfl ?_
          refine i_iload_n rfl rfl ?_
          refine i_icmp_ge_f rfl (by first | omega | assumption) ?_
          refine i_aload_n rfl rfl ?_
          refine i_iconst (n := 1) rfl (by unfold iR; omega) ?_
          -- at 11
          refine i_call (T := (81, zp_81)) rfl rfl (ht) rfl rfl rfl rfl rfl rfl rfl ?_
          try dsimp only
          show irun none zp_89 14 _ (iI (1) :: _) _ _ 0 0 _
          refine i_iconst (n := 1) rfl (by unfold iR; omega) ?_
          refine i_icmp_ne_f rfl (by first | omega | assumption) ?_
          refine i_aload_n rfl rfl ?_
          refine i_aload_n rfl rfl ?_
          refine i_iload rfl rfl ?_
          refine i_iload_n rfl rfl ?_
          -- at 23
          refine i_call (T := (91, zp_91)) rfl rfl (hm2) rfl rfl rfl rfl rfl rfl rfl ?_
          try dsimp only
          show irun none zp_89 26 _ (iI (((d + ((nv B (a + 5) 3).toNat + 2) : Nat) : Int)) :: _) _ _ 0 0 _
          refine i_goto rfl ?_
          refine i_istore rfl (Nat.le_of_ble_eq_true rfl) rfl ?_
          refine i_iload rfl rfl ?_
          refine i_iload rfl rfl ?_
          refine i_icmp_gt_t rfl (by first | omega | assumption) ?_
          refine i_iload rfl rfl ?_
          refine i_istore rfl (Nat.le_of_ble_eq_true rfl) rfl ?_
          refine i_goto rfl ?_
          -- at 3
          exact g1
        · have hms : mst B m all d a R = none := by
            unfold mst
            rw [if_pos hbit, if_neg hk]
          obtain ⟨Q, hm2⟩ := c_tmatchF (b := b) (all := all) h4' hm (by omega) h2 hall (by
            rw [show a + 1 + 4 = a + 5 from rfl]
            rintro ⟨k1, k2⟩
            exact hk ⟨by omega, k2⟩)
          rw [mrn_n hd hms]
          refine ⟨va_up (va_up M 28 (va_up (M 28) 2 ((a + 1 : Nat) : Int))) 28 Q, ?_, Fr_up (Fr_up (Fr_r _ _) (by decide)) (by decide), fun R' hR => by cases hR⟩
          · refine i_iload rfl rfl ?_
            refine i_iload_n rfl rfl ?_
            refine i_icmp_ge_f rfl (by first | omega | assumption) ?_
            refine i_aload_n rfl rfl ?_
            refine i_iconst (n := 1) rfl (by unfold iR; omega) ?_
            -- at 11
            refine i_call (T := (81, zp_81)) rfl rfl (ht) rfl rfl rfl rfl rfl rfl rfl ?_
            try dsimp only
            show irun none zp_89 14 _ (iI (1) :: _) _ _ 0 0 _
            refine i_iconst (n := 1) rfl (by unfold iR; omega) ?_
            refine i_icmp_ne_f rfl (by first | omega | assumption) ?_
            refine i_aload_n rfl rfl ?_
            refine i_aload_n rfl rfl ?_
            refine i_iload rfl rfl ?_
            refine i_iload_n rfl rfl ?_
            -- at 23
            refine i_call (T := (91, zp_91)) rfl rfl (hm2) rfl rfl rfl rfl rfl rfl rfl ?_
            try dsimp only
            show irun none zp_89 26 _ (iI (-1) :: _) _ _ 0 0 _
            refine i_goto rfl ?_
            refine i_istore rfl (Nat.le_of_ble_eq_true rfl) rfl ?_
            refine i_iload rfl rfl ?_
            refine i_iload rfl rfl ?_
            refine i_icmp_gt_f rfl (by first | omega | assumption) ?_
            refine i_iconst (n := 0) rfl (by unfold iR; omega) ?_
            -- at 46
            exact i_zreturn rfl rfl (by first | omega | assumption)
      · by_cases h9 : a + 9 ≤ 8 * m
        · have hms : mst B m all d a R = some (d + 1, a + 9, va_up R d (nv B (a + 1) 8)) := by
            unfold mst
            rw [if_neg hbit, if_pos h9]
          have ht := c_take (b := b) (n := 1) h4 hm (by decide) (by omega)
          have vb := bt_b B a
          have hb0 : bt B a = 0 := by
            have : ¬ bt B a = 1 := fun q => hbit ⟨by omega, q⟩
            omega
          rw [show nv B a 1 = 2 * 0 + bt B a from rfl, hb0] at ht
          have h4' := BS_tk (n := 1) h4
          have hm2 := c_tbyte (b := b) (d := d) h4' hm (by omega) (by omega)
          have v8 := nv_b B (a + 1) 8
          obtain ⟨M', g1, g2, g3⟩ := ih (d + 1) (a + 9) (va_up R d (nv B (a + 1) 8)) (some (iI ((d + 1 : Nat) : Int))) (va_up (va_up (va_up M 28 (va_up (M 28) 2 ((a + 1 : Nat) : Int))) 28 (va_up (va_up (M 28) 2 ((a + 1 : Nat) : Int)) 2 ((a + 1 + 8 : Nat) : Int))) 31 (va_up (M 31) d (nv B (a + 1) 8))) (by omega) (by omega) (by omega) ⟨h4.1, rfl, h4.2.2⟩ (fun j hj => by
            show va_up (M 31) d _ j = _ ∧ _
            by_cases e : j = d
            · rw [e, up_s, up_s]
              exact ⟨rfl, v8.1, v8.2⟩
            · rw [up_n e, up_n e]
              exact h5 j (by omega))
          rw [mrn_s hd hms]
          refine ⟨M', ?_, Fr_t (Fr_up (Fr_up (Fr_up (Fr_r _ _) (by decide)) (by decide)) (by decide)) g2 (by decide), g3⟩
          refine i_iload rfl rfl ?_
          refine i_iload_n rfl rfl ?_
          refine i_icmp_ge_f rfl (by first | omega | assumption) ?_
          refine i_aload_n rfl rfl ?_
          refine i_iconst (n := 1) rfl (by unfold iR; omega) ?_
          -- at 11
          refine i_call (T := (81, zp_81)) rfl rfl (ht) rfl rfl rfl rfl rfl rfl rfl ?_
          try dsimp only
          show irun none zp_89 14 _ (iI (0) :: _) _ _ 0 0 _
          refine i_iconst (n := 1) rfl (by unfold iR; omega) ?_
          refine i_icmp_ne_t rfl (by first | omega | assumption) ?_
          refine i_aload_n rfl rfl ?_
          refine i_aload_n rfl rfl ?_
          refine i_iload rfl rfl ?_
          -- at 33
          refine i_call (T := (90, zp_90)) rfl rfl (hm2) rfl rfl rfl rfl rfl rfl rfl ?_
          try dsimp only
          show irun none zp_89 36 _ (iI (((d + 1 : Nat) : Int)) :: _) _ _ 0 0 _
          refine i_istore rfl (Nat.le_of_ble_eq_true rfl) rfl ?_
          refine i_iload rfl rfl ?_
          refine i_iload rfl rfl ?_
          refine i_icmp_gt_t rfl (by first | omega | assumption) ?_
          refine i_iload rfl rfl ?_
          refine i_istore rfl (Nat.le_of_ble_eq_true rfl) rfl ?_
          refine i_goto rfl ?_
          -- at 3
          exact g1
        · have hms : mst B m all d a R = none := by
            unfold mst
            rw [if_neg hbit, if_neg h9]
          rw [mrn_n hd hms]
          by_cases ha : a < 8 * m
          · have ht := c_take (b := b) (n := 1) h4 hm (by decide) (by omega)
            have vb := bt_b B a
            have hb0 : bt B a = 0 := by
              have : ¬ bt B a = 1 := fun q => hbit ⟨by omega, q⟩
              omega
            rw [show nv B a 1 = 2 * 0 + bt B a from rfl, hb0] at ht
            have h4' := BS_tk (n := 1) h4
            have hm2 := c_tbyteF (b := b) (d := d) h4' hm (by omega) (by omega) (by omega)
            refine ⟨va_up M 28 (va_up (M 28) 2 ((a + 1 : Nat) : Int)), ?_, Fr_up (Fr_r _ _) (by decide), fun R' hR => by cases hR⟩
            refine i_iload rfl rfl ?_
            refine i_iload_n rfl rfl ?_
            refine i_icmp_ge_f rfl (by first | omega | assumption) ?_
            refine i_aload_n rfl rfl ?_
            refine i_iconst (n := 1) rfl (by unfold iR; omega) ?_
            -- at 11
            refine i_call (T := (81, zp_81)) rfl rfl (ht) rfl rfl rfl rfl rfl rfl rfl ?_
            try dsimp only
            show irun none zp_89 14 _ (iI (0) :: _) _ _ 0 0 _
            refine i_iconst (n := 1) rfl (by unfold iR; omega) ?_
            refine i_icmp_ne_t rfl (by first | omega | assumption) ?_
            refine i_aload_n rfl rfl ?_
            refine i_aload_n rfl rfl ?_
            refine i_iload rfl rfl ?_
            -- at 33
            refine i_call (T := (90, zp_90)) rfl rfl (hm2) rfl rfl rfl rfl rfl rfl rfl ?_
            try dsimp only
            show irun none zp_89 36 _ (iI (-1) :: _) _ _ 0 0 _
            refine i_istore rfl (Nat.le_of_ble_eq_true rfl) rfl ?_
            refine i_iload rfl rfl ?_
            refine i_iload rfl rfl ?_
            refine i_icmp_gt_f rfl (by first | omega | assumption) ?_
            refine i_iconst (n := 0) rfl (by unfold iR; omega) ?_
            -- at 46
            exact i_zreturn rfl rfl (by first | omega | assumption)
          · have ht := c_takeF (b := b) (n := 1) h4 hm h3 (by decide) (by omega)
            have hm2 := c_tbyteF (b := b) (d := d) h4 hm h3 (by omega) (by omega)
            refine ⟨M, ?_, Fr_r _ _, fun R' hR => by cases hR⟩
            refine i_iload rfl rfl ?_
            refine i_iload_n rfl rfl ?_
            refine i_icmp_ge_f rfl (by first | omega | assumption) ?_
            refine i_aload_n rfl rfl ?_
            refine i_iconst (n := 1) rfl (by unfold iR; omega) ?_
            -- at 11
            refine i_call (T := (81, zp_81)) rfl rfl (ht) rfl rfl rfl rfl rfl rfl rfl ?_
            try dsimp only
            show irun none zp_89 14 _ (iI (-1) :: _) _ _ 0 0 _
            refine i_iconst (n := 1) rfl (by unfold iR; omega) ?_
            refine i_icmp_ne_t rfl (by first | omega | assumption) ?_
            refine i_aload_n rfl rfl ?_
            refine i_aload_n rfl rfl ?_
            refine i_iload rfl rfl ?_
            -- at 33
            refine i_call (T := (90, zp_90)) rfl rfl (hm2) rfl rfl rfl rfl rfl rfl rfl ?_
            try dsimp only
            show irun none zp_89 36 _ (iI (-1) :: _) _ _ 0 0 _
            refine i_istore rfl (Nat.le_of_ble_eq_true rfl) rfl ?_
            refine i_iload rfl rfl ?_
            refine i_iload rfl rfl ?_
            refine i_icmp_gt_f rfl (by first | omega | assumption) ?_
            refine i_iconst (n := 0) rfl (by unfold iR; omega) ?_
            -- at 46
            exact i_zreturn rfl rfl (by first | omega | assumption)
    · exact done (c + 1) d a R l5 M hd h2 h5
theorem c_matches {b : Bool} {M : iM} {B : Nat → Int} {m all p : Nat} (hB : BS M B m 0) (hm : m ≤ 256) (hall : all ≤ 255) : ∃ M', irun none zp_89 0 (i_ent [iP p, iP 28, iP 31, iI (all : Int)] 6) [] (SH b) M 0 0 (some (ob (mrn B m all all 0 0 (fun _ => 0))), SH b, M') ∧ Fr [28, 31] M M' ∧ ∀ R', mrn B m all all 0 0 (fun _ => 0) = some R' → ∀ j, j < all → M' 31 j = R' j ∧ 0 ≤ R' j ∧ R' j < 256 := by
  obtain ⟨M', g1, g2⟩ := c_matchesL (b := b) (p := p) hm hall all 0 0 (fun _ => 0) none M (by omega) (by omega) (by omega) hB (fun j hj => by omega)
  refine ⟨M', ?_, g2⟩
  refine i_iconst (n := 0) rfl (by unfold iR; omega) ?_
  refine i_istore rfl (Nat.le_of_ble_eq_true rfl) rfl ?_
  -- at 3
  exact g1
