def mxt (W : Nat → Int) : Nat → Int
  | 0 => 0
  | n + 1 => if mxt W n < W (7 * n + 6) then W (7 * n + 6) else mxt W n
def bsf (g W : Nat → Int) : Nat → Nat → Int
  | 0 => g
  | n + 1 => va_up (bsf g W n) (W (7 * n)).toNat (if bsf g W n (W (7 * n)).toNat < W (7 * n + 1) then W (7 * n + 1) else bsf g W n (W (7 * n)).toNat)
theorem mxt_c {V W : Nat → Int} : ∀ {n : Nat}, (∀ j, j < n → V (7 * j + 6) = W (7 * j + 6)) → mxt V n = mxt W n := by
  intro n
  induction n with
  | zero => intro _; rfl
  | succ n ih =>
    intro h
    unfold mxt
    rw [ih (fun j hj => h j (by omega)), h n (by omega)]
theorem mxt_b {W : Nat → Int} {B : Int} (hB : 0 ≤ B) : ∀ {n : Nat}, (∀ j, j < n → W (7 * j + 6) ≤ B) → 0 ≤ mxt W n ∧ mxt W n ≤ B := by
  intro n
  induction n with
  | zero => intro _; exact ⟨Int.le_refl _, hB⟩
  | succ n ih =>
    intro h
    have h1 := ih (fun j hj => h j (by omega))
    have h2 := h n (by omega)
    unfold mxt
    split <;> omega
theorem bsf_c {g g' V W : Nat → Int} (hg : ∀ k, k < 8 → g k = g' k) : ∀ {n : Nat}, (∀ j, j < n → V (7 * j) = W (7 * j) ∧ V (7 * j + 1) = W (7 * j + 1) ∧ 0 ≤ W (7 * j) ∧ W (7 * j) ≤ 7) → ∀ k, k < 8 → bsf g V n k = bsf g' W n k := by
  intro n
  induction n with
  | zero => intro _; exact hg
  | succ n ih =>
    intro h k hk
    have h1 := ih (fun j hj => h j (by omega))
    obtain ⟨a1, a2, a3, a4⟩ := h n (by omega)
    unfold bsf
    rw [a1, a2, h1 _ (show (W (7 * n)).toNat < 8 by omega)]
    by_cases e : k = (W (7 * n)).toNat
    · rw [e, up_s, up_s]
    · rw [up_n e, up_n e]
      exact h1 k hk
theorem bsf_b {g W : Nat → Int} {B : Int} (hg : ∀ k, k < 8 → 0 ≤ g k ∧ g k ≤ B) : ∀ {n : Nat}, (∀ j, j < n → W (7 * j + 1) ≤ B ∧ 0 ≤ W (7 * j) ∧ W (7 * j) ≤ 7) → ∀ k, k < 8 → 0 ≤ bsf g W n k ∧ bsf g W n k ≤ B := by
  intro n
  induction n with
  | zero => intro _; exact hg
  | succ n ih =>
    intro h k hk
    have h1 := ih (fun j hj => h j (by omega))
    obtain ⟨a1, a2, a3⟩ := h n (by omega)
    have h2 := h1 (W (7 * n)).toNat (by omega)
    unfold bsf
    by_cases e : k = (W (7 * n)).toNat
    · rw [e, up_s]
      split <;> omega
    · rw [up_n e]
      exact h1 k hk
theorem bsf_m {g W : Nat → Int} {n k : Nat} : bsf g W n k ≤ bsf g W (n + 1) k := by
  show _ ≤ va_up _ _ _ _
  by_cases e : k = (W (7 * n)).toNat
  · rw [e, up_s]
    split <;> omega
  · rw [up_n e]
    exact Int.le_refl _
theorem bsf_ge {g W : Nat → Int} : ∀ {n j : Nat}, j < n → W (7 * j + 1) ≤ bsf g W n (W (7 * j)).toNat := by
  intro n
  induction n with
  | zero => intro j hj; omega
  | succ n ih =>
    intro j hj
    by_cases e : j = n
    · rw [e]
      show _ ≤ va_up _ _ _ _
      rw [up_s]
      split <;> omega
    · exact Int.le_trans (ih (by omega)) bsf_m
set_option maxRecDepth 100000 in
theorem c_swap {b : Bool} {M : iM} : irun none zp_20 0 (i_ent [iP 0] 2) [] (SH b) M 0 0 (none, SH (!b), M) := by
  cases b
  · refine i_aload_n rfl rfl ?_
    refine i_getr (p2 := 36) rfl rfl rfl rfl (by decide) rfl ?_
    refine i_astore_n rfl (Nat.le_of_ble_eq_true rfl) rfl ?_
    refine i_aload_n rfl rfl ?_
    refine i_aload_n rfl rfl ?_
    refine i_getr (p2 := 38) rfl rfl rfl rfl (by decide) rfl ?_
    refine i_putr rfl rfl rfl rfl (Nat.le_of_ble_eq_true rfl) ?_
    refine i_aload_n rfl rfl ?_
    refine i_aload_n rfl rfl ?_
    refine i_putr rfl rfl rfl rfl (Nat.le_of_ble_eq_true rfl) ?_
    -- at 18
    exact i_vreturn rfl rfl
  · refine i_aload_n rfl rfl ?_
    refine i_getr (p2 := 38) rfl rfl rfl rfl (by decide) rfl ?_
    refine i_astore_n rfl (Nat.le_of_ble_eq_true rfl) rfl ?_
    refine i_aload_n rfl rfl ?_
    refine i_aload_n rfl rfl ?_
    refine i_getr (p2 := 36) rfl rfl rfl rfl (by decide) rfl ?_
    refine i_putr rfl rfl rfl rfl (Nat.le_of_ble_eq_true rfl) ?_
    refine i_aload_n rfl rfl ?_
    refine i_aload_n rfl rfl ?_
    refine i_putr rfl rfl rfl rfl (Nat.le_of_ble_eq_true rfl) ?_
    -- at 18
    exact i_vreturn rfl rfl
set_option maxRecDepth 100000 in
theorem c_next {b : Bool} {M : iM} {p : Nat} (hp : p = 36 ∨ p = 38) (h : 0 ≤ M p 2 ∧ M p 2 < 256) : irun none zp_54 0 (i_ent [iP p] 1) [] (SH b) M 0 0 (some ((M p 2 + 1) % 256), SH b, M) := by
  rcases hp with rfl | rfl
  · refine i_aload_n rfl rfl ?_
    refine i_getf rfl rfl rfl rfl (by decide) ?_
    refine i_iconst (n := 1) rfl (by unfold iR; omega) ?_
    refine i_iadd rfl (by unfold iR; omega) ?_
    refine i_sipush (n := 256) rfl (by unfold iR; omega) (by decide) ?_
    refine i_irem rfl (by first | omega | assumption) (by first | omega | assumption) ?_
    -- at 10
    exact i_ireturn rfl rfl
  · refine i_aload_n rfl rfl ?_
    refine i_getf rfl rfl rfl rfl (by decide) ?_
    refine i_iconst (n := 1) rfl (by unfold iR; omega) ?_
    refine i_iadd rfl (by unfold iR; omega) ?_
    refine i_sipush (n := 256) rfl (by unfold iR; omega) (by decide) ?_
    refine i_irem rfl (by first | omega | assumption) (by first | omega | assumption) ?_
    -- at 10
    exact i_ireturn rfl rfl
set_option maxRecDepth 100000 in
theorem c_greatest {b : Bool} {M : iM} {p n : Nat} (hp : p = 36 ∨ p = 38) (hn : M p 1 = n) (h10 : n ≤ 10) : irun none zp_58 0 (i_ent [iP p] 3) [] (SH b) M 0 0 (some (mxt (M (p + 1)) n), SH b, M) := by
  have loop : ∀ (c k : Nat), k + c = n → irun none zp_58 4 [some (iP p), some (iI (mxt (M (p + 1)) k)), some (iI (k : Int))] [] (SH b) M 0 0 (some (mxt (M (p + 1)) n), SH b, M) := by
    intro c
    induction c with
    | zero =>
      intro k hk
      obtain rfl : k = n := by omega
      rcases hp with rfl | rfl
      · refine i_iload_n rfl rfl ?_
        refine i_aload_n rfl rfl ?_
        refine i_getf rfl rfl rfl rfl (by decide) ?_
        refine i_icmp_ge_t rfl (by first | omega | assumption) ?_
        refine i_iload_n rfl rfl ?_
        -- at 31
        exact i_ireturn rfl rfl
      · refine i_iload_n rfl rfl ?_
        refine i_aload_n rfl rfl ?_
        refine i_getf rfl rfl rfl rfl (by decide) ?_
        refine i_icmp_ge_t rfl (by first | omega | assumption) ?_
        refine i_iload_n rfl rfl ?_
        -- at 31
        exact i_ireturn rfl rfl
    | succ c ih =>
      intro k hk
      have hnx := ih (k + 1) (by omega)
      have w6 := c_word (b := b) (M := M) (p := p) (k := k) (u := 6) hp (by omega) (by decide)
      rcases hp with rfl | rfl
      · refine i_iload_n rfl rfl ?_
        refine i_aload_n rfl rfl ?_
        refine i_getf rfl rfl rfl rfl (by decide) ?_
        refine i_icmp_ge_f rfl (by first | omega | assumption) ?_
        refine i_iload_n rfl rfl ?_
        refine i_aload_n rfl rfl ?_
        refine i_iload_n rfl rfl ?_
        refine i_bipush (n := 6) rfl (by unfold iR; omega) (by decide) ?_
        -- at 17
        refine i_call (T := (55, zp_55)) rfl rfl (w6) rfl rfl rfl rfl rfl rfl rfl ?_
        try dsimp only
        show irun none zp_58 20 _ (iI (M (36 + 1) (7 * k + 6)) :: _) _ _ 0 0 _
        refine i_max rfl rfl (Nat.le_of_ble_eq_true rfl) ?_
        refine i_istore_n rfl (Nat.le_of_ble_eq_true rfl) rfl ?_
        refine i_iinc rfl rfl (by unfold iR; omega) (Nat.le_of_ble_eq_true rfl) rfl ?_
        refine i_goto rfl ?_
        -- at 4
        exact hnx
      · refine i_iload_n rfl rfl ?_
        refine i_aload_n rfl rfl ?_
        refine i_getf rfl rfl rfl rfl (by decide) ?_
        refine i_icmp_ge_f rfl (by first | omega | assumption) ?_
        refine i_iload_n rfl rfl ?_
        refine i_aload_n rfl rfl ?_
        refine i_iload_n rfl rfl ?_
        refine i_bipush (n := 6) rfl (by unfold iR; omega) (by decide) ?_
        -- at 17
        refine i_call (T := (55, zp_55)) rfl rfl (w6) rfl rfl rfl rfl rfl rfl rfl ?_
        try dsimp only
        show irun none zp_58 20 _ (iI (M (38 + 1) (7 * k + 6)) :: _) _ _ 0 0 _
        refine i_max rfl rfl (Nat.le_of_ble_eq_true rfl) ?_
        refine i_istore_n rfl (Nat.le_of_ble_eq_true rfl) rfl ?_
        refine i_iinc rfl rfl (by unfold iR; omega) (Nat.le_of_ble_eq_true rfl) rfl ?_
        refine i_goto rfl ?_
        -- at 4
        exact hnx
  refine i_iconst (n := 0) rfl (by unfold iR; omega) ?_
  refine i_istore_n rfl (Nat.le_of_ble_eq_true rfl) rfl ?_
  refine i_iconst (n := 0) rfl (by unfold iR; omega) ?_
  refine i_istore_n rfl (Nat.le_of_ble_eq_true rfl) rfl ?_
  -- at 4
  exact loop n 0 (by omega)
set_option maxRecDepth 100000 in
theorem c_remember {b : Bool} {M : iM} {n : Nat} (hn : M (pI b) 1 = n) (h10 : n ≤ 10) (hw : ∀ k, k < n → 0 ≤ M (pI b + 1) (7 * k) ∧ M (pI b + 1) (7 * k) ≤ 7) : irun none zp_19 0 (i_ent [iP 0] 3) [] (SH b) M 0 0 (none, SH b, va_up M 32 (bsf (M 32) (M (pI b + 1)) n)) := by
  have loop : ∀ (c k : Nat), k + c = n → ∀ l : Option iV, irun none zp_19 2 [some (iP 0), some (iI (k : Int)), l] [] (SH b) (va_up M 32 (bsf (M 32) (M (pI b + 1)) k)) 0 0 (none, SH b, va_up M 32 (bsf (M 32) (M (pI b + 1)) n)) := by
    intro c
    induction c with
    | zero =>
      intro k hk l
      obtain rfl : k = n := by omega
      cases b
      · have hn : (va_up M 32 (bsf (M 32) (M (pI false + 1)) k)) 36 1 = k := hn
        refine i_iload_n rfl rfl ?_
        refine i_aload_n rfl rfl ?_
        refine i_getr (p2 := 36) rfl rfl rfl rfl (by decide) rfl ?_
        refine i_getf rfl rfl rfl rfl (by decide) ?_
        refine i_icmp_ge_t rfl (by first | omega | assumption) ?_
        -- at 53
        exact i_vreturn rfl rfl
      · have hn : (va_up M 32 (bsf (M 32) (M (pI true + 1)) k)) 38 1 = k := hn
        refine i_iload_n rfl rfl ?_
        refine i_aload_n rfl rfl ?_
        refine i_getr (p2 := 38) rfl rfl rfl rfl (by decide) rfl ?_
        refine i_getf rfl rfl rfl rfl (by decide) ?_
        refine i_icmp_ge_t rfl (by first | omega | assumption) ?_
        -- at 53
        exact i_vreturn rfl rfl
    | succ c ih =>
      intro k hk l
      have hnx := ih (k + 1) (by omega)
      have hwk := hw k (by omega)
      cases b
      · have hn : (va_up M 32 (bsf (M 32) (M (pI false + 1)) k)) 36 1 = n := hn
        have w0 := c_word (b := false) (M := va_up M 32 (bsf (M 32) (M (pI false + 1)) k)) (p := 36) (k := k) (u := 0) (by decide) (by omega) (by decide)
        have w1 := c_word (b := false) (M := va_up M 32 (bsf (M 32) (M (pI false + 1)) k)) (p := 36) (k := k) (u := 1) (by decide) (by omega) (by decide)
        have hwk : 0 ≤ M (36 + 1) (7 * k) ∧ M (36 + 1) (7 * k) ≤ 7 := hwk
        refine i_iload_n rfl rfl ?_
        refine i_aload_n rfl rfl ?_
        refine i_getr (p2 := 36) rfl rfl rfl rfl (by decide) rfl ?_
        refine i_getf rfl rfl rfl rfl (by decide) ?_
        refine i_icmp_ge_f rfl (by first | omega | assumption) ?_
        refine i_aload_n rfl rfl ?_
        refine i_getr (p2 := 36) rfl rfl rfl rfl (by decide) rfl ?_
        refine i_iload_n rfl rfl ?_
        refine i_iconst (n := 0) rfl (by unfold iR; omega) ?_
        -- at 19
        refine i_call (T := (55, zp_55)) rfl rfl (w0) rfl rfl rfl rfl rfl rfl rfl ?_
        try dsimp only
        show irun none zp_19 22 _ (iI (M (36 + 1) (7 * k)) :: _) _ _ 0 0 _
        refine i_istore_n rfl (Nat.le_of_ble_eq_true rfl) rfl ?_
        refine i_aload_n rfl rfl ?_
        refine i_getr rfl rfl rfl rfl (by decide) rfl ?_
        refine i_iload_n rfl rfl ?_
        refine i_aload_n rfl rfl ?_
        refine i_getr rfl rfl rfl rfl (by decide) rfl ?_
        refine i_iload_n rfl rfl ?_
        refine i_iald rfl rfl (by first | omega | assumption) (by first | omega | assumption) (by decide) ?_
        refine i_aload_n rfl rfl ?_
        refine i_getr (p2 := 36) rfl rfl rfl rfl (by decide) rfl ?_
        refine i_iload_n rfl rfl ?_
        refine i_iconst (n := 1) rfl (by unfold iR; omega) ?_
        -- at 40
        refine i_call (T := (55, zp_55)) rfl rfl (w1) rfl rfl rfl rfl rfl rfl rfl ?_
        try dsimp only
        show irun none zp_19 43 _ (iI (M (36 + 1) (7 * k + 1)) :: _) _ _ 0 0 _
        refine i_max rfl rfl (Nat.le_of_ble_eq_true rfl) ?_
        refine i_iast rfl rfl (by first | omega | assumption) (by first | omega | assumption) ?_
        refine i_iinc rfl rfl (by unfold iR; omega) (Nat.le_of_ble_eq_true rfl) rfl ?_
        refine i_goto rfl ?_
        -- at 2
        rw [st_up (g := bsf (M 32) (M (pI false + 1)) (k + 1))]
        · exact hnx _
        · rfl
      · have hn : (va_up M 32 (bsf (M 32) (M (pI true + 1)) k)) 38 1 = n := hn
        have w0 := c_word (b := true) (M := va_up M 32 (bsf (M 32) (M (pI true + 1)) k)) (p := 38) (k := k) (u := 0) (by decide) (by omega) (by decide)
        have w1 := c_word (b := true) (M := va_up M 32 (bsf (M 32) (M (pI true + 1)) k)) (p := 38) (k := k) (u := 1) (by decide) (by omega) (by decide)
        have hwk : 0 ≤ M (38 + 1) (7 * k) ∧ M (38 + 1) (7 * k) ≤ 7 := hwk
        refine i_iload_n rfl rfl ?_
        refine i_aload_n rfl rfl ?_
        refine i_getr (p2 := 38) rfl rfl rfl rfl (by decide) rfl ?_
        refine i_getf rfl rfl rfl rfl (by decide) ?_
        refine i_icmp_ge_f rfl (by first | omega | assumption) ?_
        refine i_aload_n rfl rfl ?_
        refine i_getr (p2 := 38) rfl rfl rfl rfl (by decide) rfl ?_
        refine i_iload_n rfl rfl ?_
        refine i_iconst (n := 0) rfl (by unfold iR; omega) ?_
        -- at 19
        refine i_call (T := (55, zp_55)) rfl rfl (w0) rfl rfl rfl rfl rfl rfl rfl ?_
        try dsimp only
        show irun none zp_19 22 _ (iI (M (38 + 1) (7 * k)) :: _) _ _ 0 0 _
        refine i_istore_n rfl (Nat.le_of_ble_eq_true rfl) rfl ?_
        refine i_aload_n rfl rfl ?_
        refine i_getr rfl rfl rfl rfl (by decide) rfl ?_
        refine i_iload_n rfl rfl ?_
        refine i_aload_n rfl rfl ?_
        refine i_getr rfl rfl rfl rfl (by decide) rfl ?_
        refine i_iload_n rfl rfl ?_
        refine i_iald rfl rfl (by first | omega | assumption) (by first | omega | assumption) (by decide) ?_
        refine i_aload_n rfl rfl ?_
        refine i_getr (p2 := 38) rfl rfl rfl rfl (by decide) rfl ?_
        refine i_iload_n rfl rfl ?_
        refine i_iconst (n := 1) rfl (by unfold iR; omega) ?_
        -- at 40
        refine i_call (T := (55, zp_55)) rfl rfl (w1) rfl rfl rfl rfl rfl rfl rfl ?_
        try dsimp only
        show irun none zp_19 43 _ (iI (M (38 + 1) (7 * k + 1)) :: _) _ _ 0 0 _
        refine i_max rfl rfl (Nat.le_of_ble_eq_true rfl) ?_
        refine i_iast rfl rfl (by first | omega | assumption) (by first | omega | assumption) ?_
        refine i_iinc rfl rfl (by unfold iR; omega) (Nat.le_of_ble_eq_true rfl) rfl ?_
        refine i_goto rfl ?_
        -- at 2
        rw [st_up (g := bsf (M 32) (M (pI true + 1)) (k + 1))]
        · exact hnx _
        · rfl
  have h0 := loop n 0 (by omega) none
  rw [show va_up M 32 (bsf (M 32) (M (pI b + 1)) 0) = M from up_id M 32 rfl] at h0
  refine i_iconst (n := 0) rfl (by unfold iR; omega) ?_
  refine i_istore_n rfl (Nat.le_of_ble_eq_true rfl) rfl ?_
  -- at 2
  exact h0
set_option maxRecDepth 100000 in
theorem c_openZ {b : Bool} {M : iM} {l1 l2 : Option iV} {n : Nat} (hn : M (pI b) 1 = n) (h10 : n ≤ 10) (hw : ∀ k, k < n → 0 ≤ M (pI b + 1) (7 * k) ∧ M (pI b + 1) (7 * k) ≤ 7) :
    ∃ M', irun none zp_12 48 [some (iP 0), l1, l2] [] (SH b) M 0 0 (some (n : Int), SH b, M') ∧ Fr [0, 32] M M' ∧ M' 0 7 = M 0 7 ∧ M' 0 8 = mxt (M (pI b + 1)) n ∧ ∀ k, k < 8 → M' 32 k = bsf (fun _ => 0) (M (pI b + 1)) n k := by
  refine ⟨i_st (va_up (va_up M 32 (fun k => if k < 8 then 0 else M 32 k)) 32 (bsf (fun k => if k < 8 then 0 else M 32 k) (M (pI b + 1)) n)) 0 8 (mxt (M (pI b + 1)) n), ?_, Fr_st (Fr_up (Fr_up (Fr_r _ _) (by decide)) (by decide)) (by decide), rfl, rfl, ?_⟩
  · have r1 := c_afill (sh := SH b) (M := M) (p := 32) (n := 8) (rs := []) (v := 0) rfl (by decide) (by decide)
    cases b
    · have r2 := c_remember (b := false) (M := va_up M 32 (fun k => if k < 8 then 0 else M 32 k)) hn h10 hw
      have hn2 : (va_up (va_up M 32 (fun k => if k < 8 then 0 else M 32 k)) 32 (bsf (fun k => if k < 8 then 0 else M 32 k) (M (pI false + 1)) n)) 36 1 = n := hn
      have r3 := c_greatest (b := false) (M := va_up (va_up M 32 (fun k => if k < 8 then 0 else M 32 k)) 32 (bsf (fun k => if k < 8 then 0 else M 32 k) (M (pI false + 1)) n)) (p := 36) (n := n) (by decide) hn2 h10
      refine i_aload_n rfl rfl ?_
      refine i_getr rfl rfl rfl rfl (by decide) rfl ?_
      refine i_iconst (n := 0) rfl (by unfold iR; omega) ?_
      -- at 53
      refine i_call (T := (166, zp_166)) rfl rfl (r1) rfl rfl rfl rfl rfl rfl rfl ?_
      try dsimp only
      refine i_aload_n rfl rfl ?_
      -- at 57
      refine i_call (T := (19, zp_19)) rfl rfl (r2) rfl rfl rfl rfl rfl rfl rfl ?_
      try dsimp only
      refine i_aload_n rfl rfl ?_
      refine i_aload_n rfl rfl ?_
      refine i_getr (p2 := 36) rfl rfl rfl rfl (by decide) rfl ?_
      -- at 65
      refine i_call (T := (58, zp_58)) rfl rfl (r3) rfl rfl rfl rfl rfl rfl rfl ?_
      try dsimp only
      show irun none zp_12 68 _ (iI (mxt (M (36 + 1)) n) :: _) _ _ 0 0 _
      refine i_puti rfl rfl rfl rfl ?_
      refine i_aload_n rfl rfl ?_
      refine i_getr (p2 := 36) rfl rfl rfl rfl (by decide) rfl ?_
      refine i_getf rfl rfl rfl rfl (by decide) ?_
      -- at 78
      rw [show (n : Int) = M (pI false) 1 from hn.symm]
      exact i_ireturn rfl rfl
    · have r2 := c_remember (b := true) (M := va_up M 32 (fun k => if k < 8 then 0 else M 32 k)) hn h10 hw
      have hn2 : (va_up (va_up M 32 (fun k => if k < 8 then 0 else M 32 k)) 32 (bsf (fun k => if k < 8 then 0 else M 32 k) (M (pI true + 1)) n)) 38 1 = n := hn
      have r3 := c_greatest (b := true) (M := va_up (va_up M 32 (fun k => if k < 8 then 0 else M 32 k)) 32 (bsf (fun k => if k < 8 then 0 else M 32 k) (M (pI true + 1)) n)) (p := 38) (n := n) (by decide) hn2 h10
      refine i_aload_n rfl rfl ?_
      refine i_getr rfl rfl rfl rfl (by decide) rfl ?_
      refine i_iconst (n := 0) rfl (by unfold iR; omega) ?_
      -- at 53
      refine i_call (T := (166, zp_166)) rfl rfl (r1) rfl rfl rfl rfl rfl rfl rfl ?_
      try dsimp only
      refine i_aload_n rfl rfl ?_
      -- at 57
      refine i_call (T := (19, zp_19)) rfl rfl (r2) rfl rfl rfl rfl rfl rfl rfl ?_
      try dsimp only
      refine i_aload_n rfl rfl ?_
      refine i_aload_n rfl rfl ?_
      refine i_getr (p2 := 38) rfl rfl rfl rfl (by decide) rfl ?_
      -- at 65
      refine i_call (T := (58, zp_58)) rfl rfl (r3) rfl rfl rfl rfl rfl rfl rfl ?_
      try dsimp only
      show irun none zp_12 68 _ (iI (mxt (M (38 + 1)) n) :: _) _ _ 0 0 _
      refine i_puti rfl rfl rfl rfl ?_
      refine i_aload_n rfl rfl ?_
      refine i_getr (p2 := 38) rfl rfl rfl rfl (by decide) rfl ?_
      refine i_getf rfl rfl rfl rfl (by decide) ?_
      -- at 78
      rw [show (n : Int) = M (pI true) 1 from hn.symm]
      exact i_ireturn rfl rfl
  · intro k hk
    refine bsf_c (fun k hk => by rw [if_pos hk]) (fun j hj => ⟨rfl, rfl, hw j hj⟩) k hk
theorem cl_o {b : Bool} {M : iM} {z : Int} (hz : z = 0 ∨ z = 1) (hs : z = 0 ∨ M (pP b) 2 = (M (pI b) 2 + 1) % 256) (hb : 0 ≤ M (pI b) 2 ∧ M (pI b) 2 < 256) : irun none zp_17 0 (i_ent [iP 0, iI z, iI 1] 3) [] (SH b) M 0 0 (none, SH (!b), M) := by
  rcases hz with rfl | rfl
  · refine i_iload_n rfl rfl ?_
    refine i_if_eq_f rfl (by first | omega | assumption) ?_
    refine i_iload_n rfl rfl ?_
    refine i_if_eq_t rfl (by first | omega | assumption) ?_
    refine i_aload_n rfl rfl ?_
    -- at 26
    refine i_call (T := (20, zp_20)) rfl rfl (c_swap) rfl rfl rfl rfl rfl rfl rfl ?_
    try dsimp only
    refine i_goto rfl ?_
    -- at 43
    exact i_vreturn rfl rfl
  · have hs : M (pP b) 2 = (M (pI b) 2 + 1) % 256 := hs.resolve_left (by decide)
    cases b
    · refine i_iload_n rfl rfl ?_
      refine i_if_eq_f rfl (by first | omega | assumption) ?_
      refine i_iload_n rfl rfl ?_
      refine i_if_eq_f rfl (by first | omega | assumption) ?_
      refine i_aload_n rfl rfl ?_
      refine i_getr (p2 := 38) rfl rfl rfl rfl (by decide) rfl ?_
      refine i_getf rfl rfl rfl rfl (by decide) ?_
      refine i_aload_n rfl rfl ?_
      refine i_getr (p2 := 36) rfl rfl rfl rfl (by decide) rfl ?_
      -- at 19
      refine i_call (T := (54, zp_54)) rfl rfl (c_next (by decide) hb) rfl rfl rfl rfl rfl rfl rfl ?_
      try dsimp only
      show irun none zp_17 22 _ (iI ((M 36 2 + 1) % 256) :: _) _ _ 0 0 _
      have hs : M 38 2 = (M 36 2 + 1) % 256 := hs
      refine i_icmp_ne_f rfl (by first | omega | assumption) ?_
      refine i_aload_n rfl rfl ?_
      -- at 26
      refine i_call (T := (20, zp_20)) rfl rfl (c_swap) rfl rfl rfl rfl rfl rfl rfl ?_
      try dsimp only
      refine i_goto rfl ?_
      -- at 43
      exact i_vreturn rfl rfl
    · refine i_iload_n rfl rfl ?_
      refine i_if_eq_f rfl (by first | omega | assumption) ?_
      refine i_iload_n rfl rfl ?_
      refine i_if_eq_f rfl (by first | omega | assumption) ?_
      refine i_aload_n rfl rfl ?_
      refine i_getr (p2 := 36) rfl rfl rfl rfl (by decide) rfl ?_
      refine i_getf rfl rfl rfl rfl (by decide) ?_
      refine i_aload_n rfl rfl ?_
      refine i_getr (p2 := 38) rfl rfl rfl rfl (by decide) rfl ?_
      -- at 19
      refine i_call (T := (54, zp_54)) rfl rfl (c_next (by decide) hb) rfl rfl rfl rfl rfl rfl rfl ?_
      try dsimp only
      show irun none zp_17 22 _ (iI ((M 38 2 + 1) % 256) :: _) _ _ 0 0 _
      have hs : M 36 2 = (M 38 2 + 1) % 256 := hs
      refine i_icmp_ne_f rfl (by first | omega | assumption) ?_
      refine i_aload_n rfl rfl ?_
      -- at 26
      refine i_call (T := (20, zp_20)) rfl rfl (c_swap) rfl rfl rfl rfl rfl rfl rfl ?_
      try dsimp only
      refine i_goto rfl ?_
      -- at 43
      exact i_vreturn rfl rfl
theorem cl_z {b : Bool} {M : iM} {o : Int} (ho : o = 0 ∨ (o = 1 ∧ ¬ M (pP b) 2 = (M (pI b) 2 + 1) % 256)) (hb : 0 ≤ M (pI b) 2 ∧ M (pI b) 2 < 256) : irun none zp_17 0 (i_ent [iP 0, iI 1, iI o] 3) [] (SH b) M 0 0 (none, SH b, M) := by
  rcases ho with rfl | ⟨rfl, hs⟩
  · refine i_iload_n rfl rfl ?_
    refine i_if_eq_t rfl (by first | omega | assumption) ?_
    refine i_iload_n rfl rfl ?_
    refine i_if_ne_t rfl (by first | omega | assumption) ?_
    -- at 43
    exact i_vreturn rfl rfl
  · cases b
    · refine i_iload_n rfl rfl ?_
      refine i_if_eq_f rfl (by first | omega | assumption) ?_
      refine i_iload_n rfl rfl ?_
      refine i_if_eq_f rfl (by first | omega | assumption) ?_
      refine i_aload_n rfl rfl ?_
      refine i_getr (p2 := 38) rfl rfl rfl rfl (by decide) rfl ?_
      refine i_getf rfl rfl rfl rfl (by decide) ?_
      refine i_aload_n rfl rfl ?_
      refine i_getr (p2 := 36) rfl rfl rfl rfl (by decide) rfl ?_
      -- at 19
      refine i_call (T := (54, zp_54)) rfl rfl (c_next (by decide) hb) rfl rfl rfl rfl rfl rfl rfl ?_
      try dsimp only
      show irun none zp_17 22 _ (iI ((M 36 2 + 1) % 256) :: _) _ _ 0 0 _
      have hs : ¬ M 38 2 = (M 36 2 + 1) % 256 := hs
      refine i_icmp_ne_t rfl (by first | omega | assumption) ?_
      refine i_iload_n rfl rfl ?_
      refine i_if_ne_t rfl (by first | omega | assumption) ?_
      -- at 43
      exact i_vreturn rfl rfl
    · refine i_iload_n rfl rfl ?_
      refine i_if_eq_f rfl (by first | omega | assumption) ?_
      refine i_iload_n rfl rfl ?_
      refine i_if_eq_f rfl (by first | omega | assumption) ?_
      refine i_aload_n rfl rfl ?_
      refine i_getr (p2 := 36) rfl rfl rfl rfl (by decide) rfl ?_
      refine i_getf rfl rfl rfl rfl (by decide) ?_
      refine i_aload_n rfl rfl ?_
      refine i_getr (p2 := 38) rfl rfl rfl rfl (by decide) rfl ?_
      -- at 19
      refine i_call (T := (54, zp_54)) rfl rfl (c_next (by decide) hb) rfl rfl rfl rfl rfl rfl rfl ?_
      try dsimp only
      show irun none zp_17 22 _ (iI ((M 38 2 + 1) % 256) :: _) _ _ 0 0 _
      have hs : ¬ M 36 2 = (M 38 2 + 1) % 256 := hs
      refine i_icmp_ne_t rfl (by first | omega | assumption) ?_
      refine i_iload_n rfl rfl ?_
      refine i_if_ne_t rfl (by first | omega | assumption) ?_
      -- at 43
      exact i_vreturn rfl rfl
theorem cl_n {b : Bool} {M : iM} : ∃ M', irun none zp_17 0 (i_ent [iP 0, iI 0, iI 0] 3) [] (SH b) M 0 0 (none, SH b, M') ∧ Fr [36, 38] M M' ∧ M' (pI b) 1 = 0 ∧ M' (pI b) 2 = 0 ∧ M' (pI b) 3 = 0 ∧ M' (pI b) 4 = 0 := by
  cases b
  · obtain ⟨M1, h1, f1, g1⟩ := c_iclear (b := false) (M := M) (p := 36) (by decide)
    refine ⟨M1, ?_, fun c hc => f1 c (by simp at hc ⊢; omega), g1⟩
    refine i_iload_n rfl rfl ?_
    refine i_if_eq_t rfl (by first | omega | assumption) ?_
    refine i_iload_n rfl rfl ?_
    refine i_if_ne_f rfl (by first | omega | assumption) ?_
    refine i_aload_n rfl rfl ?_
    refine i_getr (p2 := 36) rfl rfl rfl rfl (by decide) rfl ?_
    -- at 40
    refine i_call (T := (53, zp_53)) rfl rfl (h1) rfl rfl rfl rfl rfl rfl rfl ?_
    try dsimp only
    -- at 43
    exact i_vreturn rfl rfl
  · obtain ⟨M1, h1, f1, g1⟩ := c_iclear (b := true) (M := M) (p := 38) (by decide)
    refine ⟨M1, ?_, fun c hc => f1 c (by simp at hc ⊢; omega), g1⟩
    refine i_iload_n rfl rfl ?_
    refine i_if_eq_t rfl (by first | omega | assumption) ?_
    refine i_iload_n rfl rfl ?_
    refine i_if_ne_f rfl (by first | omega | assumption) ?_
    refine i_aload_n rfl rfl ?_
    refine i_getr (p2 := 38) rfl rfl rfl rfl (by decide) rfl ?_
    -- at 40
    refine i_call (T := (53, zp_53)) rfl rfl (h1) rfl rfl rfl rfl rfl rfl rfl ?_
    try dsimp only
    -- at 43
    exact i_vreturn rfl rfl
theorem c_openA {b : Bool} {M : iM} : ∃ M', (∀ q, irun none zp_12 22 [some (iP 0), none, none] [] (SH b) M' 0 0 q → irun none zp_12 0 [some (iP 0), none, none] [] (SH b) M 0 0 q) ∧ Fr [1, 5, 10] M M' ∧ M' 1 = va_up (M 1) 4 0 ∧ M' 5 5 = 0 ∧ M' 5 6 = 0 ∧ M' 5 7 = 0 ∧ M' 5 8 = 0 ∧ M' 10 = zz (M 10) := by
  have hs : irun none zp_35 0 (i_ent [iP 1] 1) [] (SH b) M 0 0 (none, SH b, i_st M 1 4 0) := by
    refine i_aload_n rfl rfl ?_
    refine i_iconst (n := 0) rfl (by unfold iR; omega) ?_
    refine i_putz rfl rfl rfl rfl (by first | omega | assumption) ?_
    -- at 5
    exact i_vreturn rfl rfl
  refine ⟨i_st (va_up (va_up (i_st M 1 4 0) 5 (va_up (va_up (va_up (M 5) 6 0) 7 0) 8 0)) 10 (zz (M 10))) 5 5 0, fun q hq => ?_, Fr_st (Fr_up (Fr_up (Fr_st (Fr_r _ _) (by decide)) (by decide)) (by decide)) (by decide), rfl, rfl, rfl, rfl, rfl, rfl⟩
  have hfo := c_forget (b := b) (M := i_st M 1 4 0)
  refine i_aload_n rfl rfl ?_
  refine i_getr rfl rfl rfl rfl (by decide) rfl ?_
  -- at 4
  refine i_call (T := (35, zp_35)) rfl rfl (hs) rfl rfl rfl rfl rfl rfl rfl ?_
  try dsimp only
  refine i_aload_n rfl rfl ?_
  refine i_getr rfl rfl rfl rfl (by decide) rfl ?_
  -- at 11
  refine i_call (T := (70, zp_70)) rfl rfl (hfo) rfl rfl rfl rfl rfl rfl rfl ?_
  try dsimp only
  refine i_aload_n rfl rfl ?_
  refine i_getr rfl rfl rfl rfl (by decide) rfl ?_
  refine i_iconst (n := 0) rfl (by unfold iR; omega) ?_
  refine i_puti rfl rfl rfl rfl ?_
  -- at 22
  exact hq
