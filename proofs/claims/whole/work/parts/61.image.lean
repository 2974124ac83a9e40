def ck (f : Nat → Int) (s : Nat) : Nat → Int
  | 0 => 90
  | k + 1 => hN 8 (ix (ck f s k) (f (s * 12 + k)))
def chk (f : Nat → Int) (s : Nat) : Int := ck f s 11
def by8 (f : Nat → Int) (n : Nat) : Prop := ∀ j, j < n → 0 ≤ f j ∧ f j < 256
theorem ix_b {a b : Int} (h0 : 0 ≤ a) (h1 : a < 256) (h2 : 0 ≤ b) (h3 : b < 256) : 0 ≤ ix a b ∧ ix a b < 256 := by
  have : a.toNat ^^^ b.toNat < 2 ^ 8 := Nat.xor_lt_two_pow (by omega) (by omega)
  unfold ix
  omega
theorem ck_b {f : Nat → Int} {s : Nat} (hf : by8 f 720) (hs : s < 60) : ∀ k, k ≤ 11 → 0 ≤ ck f s k ∧ ck f s k < 256 := by
  intro k
  induction k with
  | zero => intro _; unfold ck; omega
  | succ k ih =>
    intro hk
    have h1 := ih (by omega)
    have h2 := hf (s * 12 + k) (by omega)
    have h3 := ix_b h1.1 h1.2 h2.1 h2.2
    exact hN_b 8 h3.1 h3.2
theorem chk_b {f : Nat → Int} {s : Nat} (hf : by8 f 720) (hs : s < 60) : 0 ≤ chk f s ∧ chk f s < 256 := ck_b hf hs 11 (Nat.le_refl _)
def mb (g m : Nat) : Nat := if m < 4 then g * 4 + m else 48 + g
theorem mb_b {g m : Nat} (hg : g < 12) (hm : m < 5) : mb g m < 60 := by
  unfold mb
  split <;> omega
def jo (f : Nat → Int) (g : Nat) (lo : Int) (p : Nat) : Nat → Int
  | 0 => 0
  | m + 1 => if (m : Int) = lo then jo f g lo p m else ix (jo f g lo p m) (f (mb g m * 12 + p))
def jn (f : Nat → Int) (g : Nat) (lo : Int) (p : Nat) : Int := jo f g lo p 5
theorem jo_b {f : Nat → Int} {g p : Nat} {lo : Int} (hf : by8 f 720) (hg : g < 12) (hp : p < 12) : ∀ m, m ≤ 5 → 0 ≤ jo f g lo p m ∧ jo f g lo p m < 256 := by
  intro m
  induction m with
  | zero => intro _; unfold jo; omega
  | succ m ih =>
    intro hm
    have h1 := ih (by omega)
    have hb := mb_b hg (show m < 5 by omega)
    have h2 := hf (mb g m * 12 + p) (by omega)
    unfold jo
    split
    · exact h1
    · exact ix_b h1.1 h1.2 h2.1 h2.2
theorem jn_b {f : Nat → Int} {g p : Nat} {lo : Int} (hf : by8 f 720) (hg : g < 12) (hp : p < 12) : 0 ≤ jn f g lo p ∧ jn f g lo p < 256 := jo_b hf hg hp 5 (Nat.le_refl _)
theorem up_s {α : Type} (f : Nat → α) (k : Nat) (v : α) : va_up f k v k = v := by simp [va_up]
theorem up_n {α : Type} {f : Nat → α} {k j : Nat} {v : α} (h : j ≠ k) : va_up f k v j = f j := by simp [va_up, h]
theorem up_st (M : iM) (c k : Nat) (f : Nat → Int) (v : Int) : i_st (va_up M c f) c k v = va_up M c (va_up f k v) := by
  funext d j
  unfold i_st va_up
  by_cases h : d = c
  · simp [h]
  · simp [h]
theorem up_up (M : iM) (c : Nat) (f g : Nat → Int) : va_up (va_up M c f) c g = va_up M c g := by
  funext d
  unfold va_up
  by_cases h : d = c
  · simp [h]
  · simp [h]
theorem up_id (M : iM) (c : Nat) {f : Nat → Int} (h : f = M c) : va_up M c f = M := by
  funext d
  unfold va_up
  by_cases h2 : d = c
  · subst h2
    simp [h]
  · simp [h2]
set_option maxRecDepth 100000 in
theorem c_cell {b : Bool} {M : iM} {s p : Nat} (hs : s < 60) (hp : p < 12) : irun none zp_32 0 (i_ent [iP 1, iI (s : Int), iI (p : Int)] 3) [] (SH b) M 0 0 (some (M 2 (s * 12 + p)), SH b, M) := by
  refine i_aload_n rfl rfl ?_
  refine i_getr rfl rfl rfl rfl (by decide) rfl ?_
  refine i_iload_n rfl rfl ?_
  refine i_bipush (n := 12) rfl (by unfold iR; omega) (by decide) ?_
  refine i_imul rfl (by unfold iR; omega) ?_
  refine i_iload_n rfl rfl ?_
  refine i_iadd rfl (by unfold iR; omega) ?_
  refine i_iald rfl rfl (by first | omega | assumption) (by first | omega | assumption) (by decide) ?_
  -- at 11
  rw [show ((s : Int) * 12 + (p : Int)).toNat = s * 12 + p by omega]
  exact i_ireturn rfl rfl
set_option maxRecDepth 100000 in
theorem c_checkOf {b : Bool} {M : iM} {s : Nat} (hs : s < 60) (hf : by8 (M 2) 720) (hm : ∀ x : Nat, x < 256 → M 3 x = hN 8 (x : Int)) : irun none zp_38 0 (i_ent [iP 1, iI (s : Int)] 4) [] (SH b) M 0 0 (some (chk (M 2) s), SH b, M) := by
  have loop : ∀ (n k : Nat), k + n = 11 → irun none zp_38 5 [some (iP 1), some (iI (s : Int)), some (iI (ck (M 2) s k)), some (iI (k : Int))] [] (SH b) M 0 0 (some (chk (M 2) s), SH b, M) := by
    intro n
    induction n with
    | zero =>
      intro k hk
      obtain rfl : k = 11 := by omega
      refine i_iload_n rfl rfl ?_
      refine i_bipush (n := 11) rfl (by unfold iR; omega) (by decide) ?_
      refine i_icmp_ge_t rfl (by first | omega | assumption) ?_
      refine i_iload_n rfl rfl ?_
      -- at 37
      exact i_ireturn rfl rfl
    | succ n ih =>
      intro k hk
      have hn := ih (k + 1) (by omega)
      have h1 := ck_b hf hs k (by omega)
      have h2 := hf (s * 12 + k) (by omega)
      have h3 := ix_b h1.1 h1.2 h2.1 h2.2
      have e1 : ((s : Int) * 12 + (k : Int)).toNat = s * 12 + k := by omega
      rw [← e1] at h2 h3
      have e : ck (M 2) s (k + 1) = M 3 (ix (ck (M 2) s k) (M 2 ((s : Int) * 12 + (k : Int)).toNat)).toNat := by
        rw [hm _ (by omega), Int.toNat_of_nonneg h3.1, e1]
        rfl
      rw [e] at hn
      refine i_iload_n rfl rfl ?_
      refine i_bipush (n := 11) rfl (by unfold iR; omega) (by decide) ?_
      refine i_icmp_ge_f rfl (by first | omega | assumption) ?_
      refine i_aload_n rfl rfl ?_
      refine i_getr rfl rfl rfl rfl (by decide) rfl ?_
      refine i_iload_n rfl rfl ?_
      refine i_aload_n rfl rfl ?_
      refine i_getr rfl rfl rfl rfl (by decide) rfl ?_
      refine i_iload_n rfl rfl ?_
      refine i_bipush (n := 12) rfl (by unfold iR; omega) (by decide) ?_
      refine i_imul rfl (by unfold iR; omega) ?_
      refine i_iload_n rfl rfl ?_
      refine i_iadd rfl (by unfold iR; omega) ?_
      refine i_iald rfl rfl (by first | omega | assumption) (by first | omega | assumption) (by decide) ?_
      refine i_ixor rfl (by first | omega | assumption) (by first | omega | assumption) ?_
      refine i_iald rfl rfl (by first | omega | assumption) (by first | omega | assumption) (by decide) ?_
      refine i_istore_n rfl (Nat.le_of_ble_eq_true rfl) rfl ?_
      refine i_iinc rfl rfl (by unfold iR; omega) (Nat.le_of_ble_eq_true rfl) rfl ?_
      refine i_goto rfl ?_
      -- at 5
      exact hn
  refine i_bipush (n := 90) rfl (by unfold iR; omega) (by decide) ?_
  refine i_istore_n rfl (Nat.le_of_ble_eq_true rfl) rfl ?_
  refine i_iconst (n := 0) rfl (by unfold iR; omega) ?_
  refine i_istore_n rfl (Nat.le_of_ble_eq_true rfl) rfl ?_
  -- at 5
  exact loop 11 0 rfl
set_option maxRecDepth 100000 in
theorem c_seal {b : Bool} {M : iM} {s : Nat} (hs : s < 60) (hf : by8 (M 2) 720) (hm : ∀ x : Nat, x < 256 → M 3 x = hN 8 (x : Int)) : irun none zp_39 0 (i_ent [iP 1, iI (s : Int)] 2) [] (SH b) M 0 0 (none, SH b, i_st M 2 (s * 12 + 11) (chk (M 2) s)) := by
  refine i_aload_n rfl rfl ?_
  refine i_getr rfl rfl rfl rfl (by decide) rfl ?_
  refine i_iload_n rfl rfl ?_
  refine i_bipush (n := 12) rfl (by unfold iR; omega) (by decide) ?_
  refine i_imul rfl (by unfold iR; omega) ?_
  refine i_bipush (n := 11) rfl (by unfold iR; omega) (by decide) ?_
  refine i_iadd rfl (by unfold iR; omega) ?_
  refine i_aload_n rfl rfl ?_
  refine i_iload_n rfl rfl ?_
  -- at 13
  refine i_call (T := (38, zp_38)) rfl rfl (c_checkOf hs hf hm) rfl rfl rfl rfl rfl rfl rfl ?_
  try dsimp only
  refine i_iast rfl rfl (by first | omega | assumption) (by first | omega | assumption) ?_
  -- at 17
  rw [show ((s : Int) * 12 + 11).toNat = s * 12 + 11 by omega]
  exact i_vreturn rfl rfl
def bi (p : Prop) [Decidable p] : Int := if p then 1 else 0
set_option maxRecDepth 100000 in
theorem c_isGood {b : Bool} {M : iM} {s : Nat} (hs : s < 60) (hf : by8 (M 2) 720) (hm : ∀ x : Nat, x < 256 → M 3 x = hN 8 (x : Int)) : irun none zp_40 0 (i_ent [iP 1, iI (s : Int)] 2) [] (SH b) M 0 0 (some (bi (M 2 (s * 12 + 11) = chk (M 2) s)), SH b, M) := by
  refine i_aload_n rfl rfl ?_
  refine i_iload_n rfl rfl ?_
  refine i_bipush (n := 11) rfl (by unfold iR; omega) (by decide) ?_
  -- at 4
  refine i_call (T := (32, zp_32)) rfl rfl (c_cell (p := 11) hs (by decide)) rfl rfl rfl rfl rfl rfl rfl ?_
  try dsimp only
  refine i_aload_n rfl rfl ?_
  refine i_iload_n rfl rfl ?_
  -- at 9
  refine i_call (T := (38, zp_38)) rfl rfl (c_checkOf hs hf hm) rfl rfl rfl rfl rfl rfl rfl ?_
  try dsimp only
  unfold bi
  by_cases h : M 2 (s * 12 + 11) = chk (M 2) s
  · rw [if_pos h]
    refine i_icmp_ne_f rfl (by first | omega | assumption) ?_
    refine i_iconst (n := 1) rfl (by unfold iR; omega) ?_
    refine i_goto rfl ?_
    -- at 20
    exact i_zreturn rfl rfl (by first | omega | assumption)
  · rw [if_neg h]
    refine i_icmp_ne_t rfl (by first | omega | assumption) ?_
    refine i_iconst (n := 0) rfl (by unfold iR; omega) ?_
    -- at 20
    exact i_zreturn rfl rfl (by first | omega | assumption)
set_option maxRecDepth 100000 in
theorem c_sectorOf {sh : List zS} {M : iM} {g m : Nat} (hg : g < 12) (hm : m < 5) : irun none zp_41 0 (i_ent [iI (g : Int), iI (m : Int)] 2) [] sh M 0 0 (some (mb g m : Int), sh, M) := by
  unfold mb
  by_cases h : m < 4
  · rw [if_pos h]
    refine i_iload_n rfl rfl ?_
    refine i_iconst (n := 4) rfl (by unfold iR; omega) ?_
    refine i_icmp_ge_f rfl (by first | omega | assumption) ?_
    refine i_iload_n rfl rfl ?_
    refine i_iconst (n := 4) rfl (by unfold iR; omega) ?_
    refine i_imul rfl (by unfold iR; omega) ?_
    refine i_iload_n rfl rfl ?_
    refine i_iadd rfl (by unfold iR; omega) ?_
    refine i_goto rfl ?_
    -- at 17
    exact i_ireturn rfl rfl
  · rw [if_neg h]
    refine i_iload_n rfl rfl ?_
    refine i_iconst (n := 4) rfl (by unfold iR; omega) ?_
    refine i_icmp_ge_t rfl (by first | omega | assumption) ?_
    refine i_bipush (n := 48) rfl (by unfold iR; omega) (by decide) ?_
    refine i_iload_n rfl rfl ?_
    refine i_iadd rfl (by unfold iR; omega) ?_
    -- at 17
    exact i_ireturn rfl rfl
