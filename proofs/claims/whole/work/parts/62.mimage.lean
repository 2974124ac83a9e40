set_option maxRecDepth 100000 in
theorem d_hash {sh : List zS} {M : iM} {x : Int} (h0 : 0 ≤ x) (h : x < 256) : irun none zp_109 0 (i_ent [iI x] 3) [] sh M 0 0 (some (hN 8 x), sh, M) := by
  have loop : ∀ (n i : Nat), i + n = 8 → irun none zp_109 4 [some (iI x), some (iI (hN i x)), some (iI (i : Int))] [] sh M 0 0 (some (hN 8 x), sh, M) := by
    intro n
    induction n with
    | zero =>
      intro i hi
      obtain rfl : i = 8 := by omega
      refine i_iload_n rfl rfl ?_
      refine i_bipush (n := 8) rfl (by unfold iR; omega) (by decide) ?_
      refine i_icmp_ge_t rfl (by first | omega | assumption) ?_
      refine i_iload_n rfl rfl ?_
      -- at 41
      exact i_ireturn rfl rfl
    | succ n ih =>
      intro i hi
      have hb := hN_b i h0 h
      have hn := ih (i + 1) (by omega)
      by_cases hc : 128 ≤ hN i x
      · have e : hN (i + 1) x = (ix (2 * hN i x) 29) % (255 + 1) := by
          show h1 (hN i x) = _
          unfold h1
          rw [if_pos hc]
          rfl
        rw [e] at hn
        refine i_iload_n rfl rfl ?_
        refine i_bipush (n := 8) rfl (by unfold iR; omega) (by decide) ?_
        refine i_icmp_ge_f rfl (by first | omega | assumption) ?_
        refine i_iload_n rfl rfl ?_
        refine i_sipush (n := 128) rfl (by unfold iR; omega) (by decide) ?_
        refine i_icmp_lt_f rfl (by first | omega | assumption) ?_
        refine i_iconst (n := 2) rfl (by unfold iR; omega) ?_
        refine i_iload_n rfl rfl ?_
        refine i_imul rfl (by unfold iR; omega) ?_
        refine i_bipush (n := 29) rfl (by unfold iR; omega) (by decide) ?_
        refine i_ixor rfl (by first | omega | assumption) (by first | omega | assumption) ?_
        refine i_sipush (n := 255) rfl (by unfold iR; omega) (by decide) ?_
        refine i_iand 8 rfl (by decide) (by decide) ?_
        refine i_goto rfl ?_
        refine i_istore_n rfl (Nat.le_of_ble_eq_true rfl) rfl ?_
        refine i_iinc rfl rfl (by unfold iR; omega) (Nat.le_of_ble_eq_true rfl) rfl ?_
        refine i_goto rfl ?_
        -- at 4
        exact hn
      · have e : hN (i + 1) x = 2 * hN i x := by
          show h1 (hN i x) = _
          unfold h1
          rw [if_neg hc]
        rw [e] at hn
        refine i_iload_n rfl rfl ?_
        refine i_bipush (n := 8) rfl (by unfold iR; omega) (by decide) ?_
        refine i_icmp_ge_f rfl (by first | omega | assumption) ?_
        refine i_iload_n rfl rfl ?_
        refine i_sipush (n := 128) rfl (by unfold iR; omega) (by decide) ?_
        refine i_icmp_lt_t rfl (by first | omega | assumption) ?_
        refine i_iconst (n := 2) rfl (by unfold iR; omega) ?_
        refine i_iload_n rfl rfl ?_
        refine i_imul rfl (by unfold iR; omega) ?_
        refine i_istore_n rfl (Nat.le_of_ble_eq_true rfl) rfl ?_
        refine i_iinc rfl rfl (by unfold iR; omega) (Nat.le_of_ble_eq_true rfl) rfl ?_
        refine i_goto rfl ?_
        -- at 4
        exact hn
  refine i_iload_n rfl rfl ?_
  refine i_istore_n rfl (Nat.le_of_ble_eq_true rfl) rfl ?_
  refine i_iconst (n := 0) rfl (by unfold iR; omega) ?_
  refine i_istore_n rfl (Nat.le_of_ble_eq_true rfl) rfl ?_
  -- at 4
  exact loop 8 0 rfl
theorem ck_c {f g : Nat → Int} {s t : Nat} : ∀ {k : Nat}, (∀ j, j < k → f (s * 12 + j) = g (t * 12 + j)) → ck f s k = ck g t k := by
  intro k
  induction k with
  | zero => intro _; rfl
  | succ k ih =>
    intro h
    show hN 8 (ix (ck f s k) (f (s * 12 + k))) = hN 8 (ix (ck g t k) (g (t * 12 + k)))
    rw [ih (fun j hj => h j (by omega)), h k (by omega)]
theorem chk_c {f g : Nat → Int} {s t : Nat} (h : ∀ j, j < 11 → f (s * 12 + j) = g (t * 12 + j)) : chk f s = chk g t := ck_c h
set_option maxRecDepth 100000 in
theorem d_check {b : Bool} {M : iM} (hf : by8 (M 51) 11) : irun none zp_110 0 (i_ent [iP 40] 3) [] (SH b) M 0 0 (some (chk (M 51) 0), SH b, M) := by
  have hbk : ∀ k, k ≤ 11 → 0 ≤ ck (M 51) 0 k ∧ ck (M 51) 0 k < 256 := by
    intro k
    induction k with
    | zero => intro _; unfold ck; omega
    | succ k ih =>
      intro hk
      have h1 := ih (by omega)
      have h2 := hf (0 * 12 + k) (by omega)
      have h3 := ix_b h1.1 h1.2 h2.1 h2.2
      exact hN_b 8 h3.1 h3.2
  have loop : ∀ (n k : Nat), k + n = 11 → irun none zp_110 5 [some (iP 40), some (iI (ck (M 51) 0 k)), some (iI (k : Int))] [] (SH b) M 0 0 (some (chk (M 51) 0), SH b, M) := by
    intro n
    induction n with
    | zero =>
      intro k hk
      obtain rfl : k = 11 := by omega
      refine i_iload_n rfl rfl ?_
      refine i_bipush (n := 11) rfl (by unfold iR; omega) (by decide) ?_
      refine i_icmp_ge_t rfl (by first | omega | assumption) ?_
      refine i_iload_n rfl rfl ?_
      -- at 30
      exact i_ireturn rfl rfl
    | succ n ih =>
      intro k hk
      have hn := ih (k + 1) (by omega)
      have h1 := hbk k (by omega)
      have h2 := hf k (by omega)
      have h3 := ix_b h1.1 h1.2 h2.1 h2.2
      have e : ck (M 51) 0 (k + 1) = hN 8 (ix (ck (M 51) 0 k) (M 51 k)) := by
        show hN 8 (ix (ck (M 51) 0 k) (M 51 (0 * 12 + k))) = _
        rw [show 0 * 12 + k = k by omega]
      rw [e] at hn
      have e1 : ((k : Int)).toNat = k := by omega
      rw [← e1] at h2
      refine i_iload_n rfl rfl ?_
      refine i_bipush (n := 11) rfl (by unfold iR; omega) (by decide) ?_
      refine i_icmp_ge_f rfl (by first | omega | assumption) ?_
      refine i_iload_n rfl rfl ?_
      refine i_aload_n rfl rfl ?_
      refine i_getr rfl rfl rfl rfl (by decide) rfl ?_
      refine i_iload_n rfl rfl ?_
      refine i_iald rfl rfl (by first | omega | assumption) (by first | omega | assumption) (by decide) ?_
      refine i_ixor rfl (by first | omega | assumption) (by first | omega | assumption) ?_
      -- at 19
      rw [e1]
      refine i_call (T := (109, zp_109)) rfl rfl (d_hash h3.1 h3.2) rfl rfl rfl rfl rfl rfl rfl ?_
      try dsimp only
      refine i_istore_n rfl (Nat.le_of_ble_eq_true rfl) rfl ?_
      refine i_iinc rfl rfl (by unfold iR; omega) (Nat.le_of_ble_eq_true rfl) rfl ?_
      refine i_goto rfl ?_
      -- at 5
      exact hn
  refine i_bipush (n := 90) rfl (by unfold iR; omega) (by decide) ?_
  refine i_istore_n rfl (Nat.le_of_ble_eq_true rfl) rfl ?_
  refine i_iconst (n := 0) rfl (by unfold iR; omega) ?_
  refine i_istore_n rfl (Nat.le_of_ble_eq_true rfl) rfl ?_
  -- at 5
  exact loop 11 0 rfl
theorem st_up {M : iM} {c k : Nat} {f g : Nat → Int} {v : Int} (h : va_up f k v = g) : i_st (va_up M c f) c k v = va_up M c g := by rw [up_st, h]
theorem st_M {M : iM} {c k : Nat} {v : Int} {g : Nat → Int} (h : va_up (M c) k v = g) : i_st M c k v = va_up M c g := by
  unfold i_st
  rw [h]
set_option maxRecDepth 100000 in
theorem d_fetch {b : Bool} {M : iM} {s : Nat} (hs : s < 60) : irun none zp_111 0 (i_ent [iP 40, iI (s : Int)] 3) [] (SH b) M 0 0 (none, SH b, va_up M 51 (fun k => if k < 12 then M 41 (s * 12 + k) else M 51 k)) := by
  have loop : ∀ (n k : Nat), k + n = 12 → irun none zp_111 2 [some (iP 40), some (iI (s : Int)), some (iI (k : Int))] [] (SH b) (va_up M 51 (fun j => if j < k then M 41 (s * 12 + j) else M 51 j)) 0 0 (none, SH b, va_up M 51 (fun k => if k < 12 then M 41 (s * 12 + k) else M 51 k)) := by
    intro n
    induction n with
    | zero =>
      intro k hk
      obtain rfl : k = 12 := by omega
      refine i_iload_n rfl rfl ?_
      refine i_bipush (n := 12) rfl (by unfold iR; omega) (by decide) ?_
      refine i_icmp_ge_t rfl (by first | omega | assumption) ?_
      -- at 31
      exact i_vreturn rfl rfl
    | succ n ih =>
      intro k hk
      have hn := ih (k + 1) (by omega)
      refine i_iload_n rfl rfl ?_
      refine i_bipush (n := 12) rfl (by unfold iR; omega) (by decide) ?_
      refine i_icmp_ge_f rfl (by first | omega | assumption) ?_
      refine i_aload_n rfl rfl ?_
      refine i_getr rfl rfl rfl rfl (by decide) rfl ?_
      refine i_iload_n rfl rfl ?_
      refine i_aload_n rfl rfl ?_
      refine i_getr rfl rfl rfl rfl (by decide) rfl ?_
      refine i_bipush (n := 12) rfl (by unfold iR; omega) (by decide) ?_
      refine i_iload_n rfl rfl ?_
      refine i_imul rfl (by unfold iR; omega) ?_
      refine i_iload_n rfl rfl ?_
      refine i_iadd rfl (by unfold iR; omega) ?_
      refine i_iald rfl rfl (by first | omega | assumption) (by first | omega | assumption) (by decide) ?_
      refine i_iast rfl rfl (by first | omega | assumption) (by first | omega | assumption) ?_
      refine i_iinc rfl rfl (by unfold iR; omega) (Nat.le_of_ble_eq_true rfl) rfl ?_
      refine i_goto rfl ?_
      -- at 2
      rw [st_up (g := fun j => if j < k + 1 then M 41 (s * 12 + j) else M 51 j)]
      · exact hn
      · funext j
        show (if j = (k : Int).toNat then M 41 (12 * (s : Int) + (k : Int)).toNat else if j < k then _ else _) = _
        rw [show (12 * (s : Int) + (k : Int)).toNat = s * 12 + k by omega, show (k : Int).toNat = k by omega]
        by_cases h1 : j = k
        · subst h1
          rw [if_pos rfl, if_pos (by omega)]
        · rw [if_neg h1]
          by_cases h2 : j < k
          · rw [if_pos h2, if_pos (by omega)]
          · rw [if_neg h2, if_neg (by omega)]
  refine i_iconst (n := 0) rfl (by unfold iR; omega) ?_
  refine i_istore_n rfl (Nat.le_of_ble_eq_true rfl) rfl ?_
  -- at 2
  have h0 := loop 12 0 rfl
  rw [up_id M 51 (f := fun j => if j < 0 then M 41 (s * 12 + j) else M 51 j) (by funext j; rw [if_neg (by omega)])] at h0
  exact h0
set_option maxRecDepth 100000 in
theorem d_isGood {b : Bool} {M : iM} {s : Nat} (hs : s < 60) (hf : by8 (M 41) 720) : irun none zp_112 0 (i_ent [iP 40, iI (s : Int)] 2) [] (SH b) M 0 0 (some (bi (M 41 (s * 12 + 11) = chk (M 41) s)), SH b, va_up M 51 (fun k => if k < 12 then M 41 (s * 12 + k) else M 51 k)) := by
  refine i_aload_n rfl rfl ?_
  refine i_iload_n rfl rfl ?_
  -- at 2
  refine i_call (T := (111, zp_111)) rfl rfl (d_fetch hs) rfl rfl rfl rfl rfl rfl rfl ?_
  try dsimp only
  refine i_aload_n rfl rfl ?_
  refine i_getr rfl rfl rfl rfl (by decide) rfl ?_
  refine i_bipush (n := 11) rfl (by unfold iR; omega) (by decide) ?_
  refine i_iald rfl rfl (by first | omega | assumption) (by first | omega | assumption) (by decide) ?_
  refine i_aload_n rfl rfl ?_
  -- at 13
  have hc : chk (va_up M 51 (fun k => if k < 12 then M 41 (s * 12 + k) else M 51 k) 51) 0 = chk (M 41) s := by
    refine chk_c (fun j hj => ?_)
    show (if 0 * 12 + j < 12 then M 41 (s * 12 + (0 * 12 + j)) else _) = _
    rw [if_pos (by omega), show s * 12 + (0 * 12 + j) = s * 12 + j by omega]
  refine i_call (T := (110, zp_110)) rfl rfl (d_check (fun j hj => ?_)) rfl rfl rfl rfl rfl rfl rfl ?_
  · show 0 ≤ (if j < 12 then M 41 (s * 12 + j) else _) ∧ (if j < 12 then M 41 (s * 12 + j) else _) < 256
    rw [if_pos (by omega)]
    exact hf _ (by omega)
  · rw [hc]
    show irun none zp_112 16 _ [iI (chk (M 41) s), iI (M 41 (s * 12 + 11))] _ _ 0 0 _
    unfold bi
    by_cases h : M 41 (s * 12 + 11) = chk (M 41) s
    · rw [if_pos h]
      refine i_icmp_ne_f rfl (by first | omega | assumption) ?_
      refine i_iconst (n := 1) rfl (by unfold iR; omega) ?_
      refine i_goto rfl ?_
      -- at 24
      exact i_zreturn rfl rfl (by first | omega | assumption)
    · rw [if_neg h]
      refine i_icmp_ne_t rfl (by first | omega | assumption) ?_
      refine i_iconst (n := 0) rfl (by unfold iR; omega) ?_
      -- at 24
      exact i_zreturn rfl rfl (by first | omega | assumption)
set_option maxRecDepth 100000 in
theorem d_member {sh : List zS} {M : iM} {g m : Nat} (hg : g < 12) (hm : m < 5) : irun none zp_113 0 (i_ent [iI (g : Int), iI (m : Int)] 2) [] sh M 0 0 (some (mb g m : Int), sh, M) := by
  unfold mb
  by_cases h : m < 4
  · rw [if_pos h]
    refine i_iload_n rfl rfl ?_
    refine i_iconst (n := 4) rfl (by unfold iR; omega) ?_
    refine i_icmp_ge_f rfl (by first | omega | assumption) ?_
    refine i_iconst (n := 4) rfl (by unfold iR; omega) ?_
    refine i_iload_n rfl rfl ?_
    refine i_imul rfl (by unfold iR; omega) ?_
    refine i_iload_n rfl rfl ?_
    refine i_iadd rfl (by unfold iR; omega) ?_
    refine i_goto rfl ?_
    -- at 17
    rw [show (4 * (g : Int) + (m : Int)) = ((g * 4 + m : Nat) : Int) by omega]
    exact i_ireturn rfl rfl
  · rw [if_neg h]
    refine i_iload_n rfl rfl ?_
    refine i_iconst (n := 4) rfl (by unfold iR; omega) ?_
    refine i_icmp_ge_t rfl (by first | omega | assumption) ?_
    refine i_bipush (n := 48) rfl (by unfold iR; omega) (by decide) ?_
    refine i_iload_n rfl rfl ?_
    refine i_iadd rfl (by unfold iR; omega) ?_
    -- at 17
    exact i_ireturn rfl rfl
set_option maxRecDepth 100000 in
theorem d_join {b : Bool} {M : iM} {g : Nat} {lo : Int} (hg : g < 12) (hf : by8 (M 41) 720) : irun none zp_114 0 (i_ent [iP 40, iI (g : Int), iI lo] 6) [] (SH b) M 0 0 (none, SH b, va_up M 51 (fun k => if k < 11 then jn (M 41) g lo k else M 51 k)) := by
  have inner : ∀ (q : Option Int × List zS × iM) (F : Nat → Int) (p : Nat), p < 11 → irun none zp_114 58 [some (iP 40), some (iI (g : Int)), some (iI lo), some (iI (p : Int)), some (iI (jn (M 41) g lo p)), some (iI 5)] [] (SH b) (va_up M 51 F) 0 0 q → ∀ (n m : Nat), m + n = 5 → irun none zp_114 14 [some (iP 40), some (iI (g : Int)), some (iI lo), some (iI (p : Int)), some (iI (jo (M 41) g lo p m)), some (iI (m : Int))] [] (SH b) (va_up M 51 F) 0 0 q := by
    intro q F p hp k n
    induction n with
    | zero =>
      intro m hm
      obtain rfl : m = 5 := by omega
      refine i_iload rfl rfl ?_
      refine i_iconst (n := 5) rfl (by unfold iR; omega) ?_
      refine i_icmp_ge_t rfl (by first | omega | assumption) ?_
      -- at 58
      exact k
    | succ n ih =>
      intro m hm
      have hn := ih (m + 1) (by omega)
      have h1 := jo_b (lo := lo) hf hg (show p < 12 by omega) m (by omega)
      by_cases hc : (m : Int) = lo
      · have e : jo (M 41) g lo p (m + 1) = jo (M 41) g lo p m := by
          show (if (m : Int) = lo then _ else _) = _
          rw [if_pos hc]
        rw [e] at hn
        refine i_iload rfl rfl ?_
        refine i_iconst (n := 5) rfl (by unfold iR; omega) ?_
        refine i_icmp_ge_f rfl (by first | omega | assumption) ?_
        refine i_iload rfl rfl ?_
        refine i_iload_n rfl rfl ?_
        refine i_icmp_ne_f rfl (by first | omega | assumption) ?_
        refine i_iload rfl rfl ?_
        refine i_goto rfl ?_
        refine i_istore rfl (Nat.le_of_ble_eq_true rfl) rfl ?_
        refine i_iinc rfl rfl (by unfold iR; omega) (Nat.le_of_ble_eq_true rfl) rfl ?_
        refine i_goto rfl ?_
        -- at 14
        exact hn
      · have hb := mb_b hg (show m < 5 by omega)
        have h2 := hf (mb g m * 12 + p) (by omega)
        have e : jo (M 41) g lo p (m + 1) = ix (jo (M 41) g lo p m) (M 41 (mb g m * 12 + p)) := by
          show (if (m : Int) = lo then _ else _) = _
          rw [if_neg hc]
        rw [e] at hn
        refine i_iload rfl rfl ?_
        refine i_iconst (n := 5) rfl (by unfold iR; omega) ?_
        refine i_icmp_ge_f rfl (by first | omega | assumption) ?_
        refine i_iload rfl rfl ?_
        refine i_iload_n rfl rfl ?_
        refine i_icmp_ne_t rfl (by first | omega | assumption) ?_
        refine i_iload rfl rfl ?_
        refine i_aload_n rfl rfl ?_
        refine i_getr rfl rfl rfl rfl (by decide) rfl ?_
        refine i_bipush (n := 12) rfl (by unfold iR; omega) (by decide) ?_
        refine i_iload_n rfl rfl ?_
        refine i_iload rfl rfl ?_
        -- at 42
        refine i_call (T := (113, zp_113)) rfl rfl (d_member hg (show m < 5 by omega)) rfl rfl rfl rfl rfl rfl rfl ?_
        try dsimp only
        refine i_imul rfl (by unfold iR; omega) ?_
        refine i_iload_n rfl rfl ?_
        refine i_iadd rfl (by unfold iR; omega) ?_
        refine i_iald rfl rfl (by first | omega | assumption) (by first | omega | assumption) (by decide) ?_
        -- at 49
        rw [show (12 * ((mb g m : Nat) : Int) + (p : Int)).toNat = mb g m * 12 + p by omega]
        show irun none zp_114 49 _ [iI (M 41 (mb g m * 12 + p)), iI (jo (M 41) g lo p m)] _ _ 0 0 _
        refine i_ixor rfl (by first | omega | assumption) (by first | omega | assumption) ?_
        refine i_istore rfl (Nat.le_of_ble_eq_true rfl) rfl ?_
        refine i_iinc rfl rfl (by unfold iR; omega) (Nat.le_of_ble_eq_true rfl) rfl ?_
        refine i_goto rfl ?_
        -- at 14
        exact hn
  have loop : ∀ (n k : Nat), k + n = 11 → ∀ (l4 l5 : Option iV), irun none zp_114 2 [some (iP 40), some (iI (g : Int)), some (iI lo), some (iI (k : Int)), l4, l5] [] (SH b) (va_up M 51 (fun j => if j < k then jn (M 41) g lo j else M 51 j)) 0 0 (none, SH b, va_up M 51 (fun k => if k < 11 then jn (M 41) g lo k else M 51 k)) := by
    intro n
    induction n with
    | zero =>
      intro k hk l4 l5
      obtain rfl : k = 11 := by omega
      refine i_iload_n rfl rfl ?_
      refine i_bipush (n := 11) rfl (by unfold iR; omega) (by decide) ?_
      refine i_icmp_ge_t rfl (by first | omega | assumption) ?_
      -- at 72
      exact i_vreturn rfl rfl
    | succ n ih =>
      intro k hk l4 l5
      have hn := ih (k + 1) (by omega)
      have hj := jn_b (lo := lo) hf hg (show k < 12 by omega)
      refine i_iload_n rfl rfl ?_
      refine i_bipush (n := 11) rfl (by unfold iR; omega) (by decide) ?_
      refine i_icmp_ge_f rfl (by first | omega | assumption) ?_
      refine i_iconst (n := 0) rfl (by unfold iR; omega) ?_
      refine i_istore rfl (Nat.le_of_ble_eq_true rfl) rfl ?_
      refine i_iconst (n := 0) rfl (by unfold iR; omega) ?_
      refine i_istore rfl (Nat.le_of_ble_eq_true rfl) rfl ?_
      -- at 14
      refine inner _ _ k (by omega) ?_ 5 0 rfl
      refine i_aload_n rfl rfl ?_
      refine i_getr rfl rfl rfl rfl (by decide) rfl ?_
      refine i_iload_n rfl rfl ?_
      refine i_iload rfl rfl ?_
      refine i_iast rfl rfl (by first | omega | assumption) (by first | omega | assumption) ?_
      refine i_iinc rfl rfl (by unfold iR; omega) (Nat.le_of_ble_eq_true rfl) rfl ?_
      refine i_goto rfl ?_
      -- at 2
      rw [st_up (g := fun j => if j < k + 1 then jn (M 41) g lo j else M 51 j)]
      · exact hn _ _
      · funext j
        show (if j = (k : Int).toNat then jn (M 41) g lo k else if j < k then _ else _) = _
        rw [show (k : Int).toNat = k by omega]
        by_cases h1 : j = k
        · subst h1
          rw [if_pos rfl, if_pos (by omega)]
        · rw [if_neg h1]
          by_cases h2 : j < k
          · rw [if_pos h2, if_pos (by omega)]
          · rw [if_neg h2, if_neg (by omega)]
  refine i_iconst (n := 0) rfl (by unfold iR; omega) ?_
  refine i_istore_n rfl (Nat.le_of_ble_eq_true rfl) rfl ?_
  -- at 2
  have h0 := loop 11 0 rfl none none
  rw [up_id M 51 (f := fun j => if j < 0 then jn (M 41) g lo j else M 51 j) (by funext j; rw [if_neg (by omega)])] at h0
  exact h0
