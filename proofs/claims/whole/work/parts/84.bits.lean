/-- a bit of a row of bytes, the value of bits -/
def bt (B : Nat → Int) (i : Nat) : Int := B (i / 8) / 2 ^ (7 - i % 8) % 2
def nv (B : Nat → Int) (a : Nat) : Nat → Int
  | 0 => 0
  | n + 1 => 2 * nv B a n + bt B (a + n)
theorem bt_b (B : Nat → Int) (i : Nat) : 0 ≤ bt B i ∧ bt B i ≤ 1 := by
  unfold bt
  omega
theorem p2_b : ∀ i : Nat, i ≤ 12 → (1 : Int) ≤ 2 ^ i ∧ (2 : Int) ^ i ≤ 4096 := by decide
theorem p2_s (i : Nat) : (2 : Int) ^ (i + 1) = 2 * 2 ^ i := by rw [Int.pow_succ, Int.mul_comm]
theorem nv_b (B : Nat → Int) (a n : Nat) : 0 ≤ nv B a n ∧ nv B a n < 2 ^ n := by
  induction n with
  | zero => exact ⟨Int.le_refl _, by show (0 : Int) < 1; decide⟩
  | succ n ih =>
    have := bt_b B (a + n)
    rw [p2_s]
    unfold nv
    omega
theorem nv_add (B : Nat → Int) (a n k : Nat) : nv B a (n + k) = nv B a n * 2 ^ k + nv B (a + n) k := by
  induction k with
  | zero => show nv B a n = nv B a n * 1 + 0; omega
  | succ k ih =>
    show 2 * nv B a (n + k) + bt B (a + (n + k)) = nv B a n * 2 ^ (k + 1) + (2 * nv B (a + n) k + bt B (a + n + k))
    rw [ih, p2_s, Int.mul_add, Nat.add_assoc]
    have : nv B a n * (2 * 2 ^ k) = 2 * (nv B a n * 2 ^ k) := by rw [← Int.mul_assoc, Int.mul_comm (nv B a n) 2, Int.mul_assoc]
    omega
def BS (M : iM) (B : Nat → Int) (m a : Nat) : Prop := M 28 1 = ((8 * m : Nat) : Int) ∧ M 28 2 = (a : Int) ∧ ∀ k, k < m → M 29 k = B k
set_option maxRecDepth 100000 in
theorem c_take {b : Bool} {M : iM} {B : Nat → Int} {m a n : Nat} (hB : BS M B m a) (hm : m ≤ 256) (hn : n ≤ 12) (h : a + n ≤ 8 * m) : irun none zp_81 0 (i_ent [iP 28, iI (n : Int)] 4) [] (SH b) M 0 0 (some (nv B a n), SH b, va_up M 28 (va_up (M 28) 2 ((a + n : Nat) : Int))) := by
  obtain ⟨h1, h2, h3⟩ := hB
  have loop : ∀ (c i : Nat), i + c = n → irun none zp_81 19 [some (iP 28), some (iI (n : Int)), some (iI (nv B a i)), some (iI (i : Int))] [] (SH b) (va_up M 28 (va_up (M 28) 2 ((a + i : Nat) : Int))) 0 0 (some (nv B a n), SH b, va_up M 28 (va_up (M 28) 2 ((a + n : Nat) : Int))) := by
    intro c
    induction c with
    | zero =>
      intro i hi
      obtain rfl : i = n := by omega
      refine i_iload_n rfl rfl ?_
      refine i_iload_n rfl rfl ?_
      refine i_icmp_ge_t rfl (by first | omega | assumption) ?_
      refine i_iload_n rfl rfl ?_
      -- at 71
      exact i_ireturn rfl rfl
    | succ c ih =>
      intro i hi
      have hnx := ih (i + 1) (by omega)
      have v1 := nv_b B a i
      have v2 := p2_b i (by omega)
      have v3 := bt_b B (a + i)
      refine i_iload_n rfl rfl ?_
      refine i_iload_n rfl rfl ?_
      refine i_icmp_ge_f rfl (by first | omega | assumption) ?_
      refine i_iconst (n := 2) rfl (by unfold iR; omega) ?_
      refine i_iload_n rfl rfl ?_
      refine i_imul rfl (by unfold iR; omega) ?_
      refine i_aload_n rfl rfl ?_
      refine i_getr rfl rfl rfl rfl (by decide) rfl ?_
      refine i_aload_n rfl rfl ?_
      refine i_getf rfl rfl rfl rfl (by decide) ?_
      -- at 35
      show irun none zp_81 35 _ (iI ((a + i : Nat) : Int) :: _) _ _ 0 0 _
      refine i_bipush (n := 8) rfl (by unfold iR; omega) (by decide) ?_
      refine i_idiv rfl (by first | omega | assumption) (by first | omega | assumption) ?_
      refine i_iald rfl rfl (by first | omega | assumption) (by first | omega | assumption) (by decide) ?_
      -- at 39
      rw [show (((a + i : Nat) : Int) / 8).toNat = (a + i) / 8 by omega]
      show irun none zp_81 39 _ (iI (M 29 ((a + i) / 8)) :: _) _ _ 0 0 _
      rw [h3 _ (by omega)]
      refine i_bipush (n := 7) rfl (by unfold iR; omega) (by decide) ?_
      refine i_aload_n rfl rfl ?_
      refine i_getf rfl rfl rfl rfl (by decide) ?_
      -- at 45
      show irun none zp_81 45 _ (iI ((a + i : Nat) : Int) :: _) _ _ 0 0 _
      refine i_bipush (n := 8) rfl (by unfold iR; omega) (by decide) ?_
      refine i_irem rfl (by first | omega | assumption) (by first | omega | assumption) ?_
      refine i_isub rfl (by unfold iR; omega) ?_
      refine i_ishr rfl (by first | omega | assumption) (by first | omega | assumption) ?_
      refine i_iconst (n := 1) rfl (by unfold iR; omega) ?_
      refine i_iand 1 rfl (by decide) (by decide) ?_
      -- at 52
      rw [show (7 - ((a + i : Nat) : Int) % 8).toNat = 7 - (a + i) % 8 by omega]
      show irun none zp_81 52 _ (iI (bt B (a + i)) :: iI (2 * nv B a i) :: _) _ _ 0 0 _
      refine i_iadd rfl (by unfold iR; omega) ?_
      refine i_istore_n rfl (Nat.le_of_ble_eq_true rfl) rfl ?_
      refine i_aload_n rfl rfl ?_
      first | refine i_dup rfl ?_ | refine i_dupr rfl ?_
      refine i_getf rfl rfl rfl rfl (by decide) ?_
      -- at 59
      show irun none zp_81 59 _ (iI ((a + i : Nat) : Int) :: _) _ _ 0 0 _
      refine i_iconst (n := 1) rfl (by unfold iR; omega) ?_
      refine i_iadd rfl (by unfold iR; omega) ?_
      refine i_puti rfl rfl rfl rfl ?_
      refine i_iinc rfl rfl (by unfold iR; omega) (Nat.le_of_ble_eq_true rfl) rfl ?_
      refine i_goto rfl ?_
      -- at 19
      rw [st_up (g := va_up (M 28) 2 ((a + (i + 1) : Nat) : Int))]
      · exact hnx
      · funext j
        by_cases e : j = 2
        · rw [e, up_s, up_s]
          omega
        · rw [up_n e, up_n e, up_n e]
  have h0 := loop n 0 (by omega)
  rw [up_id M 28 (f := va_up (M 28) 2 ((a + 0 : Nat) : Int)) (by
    funext j
    by_cases e : j = 2
    · rw [e, up_s, h2]; rfl
    · rw [up_n e])] at h0
  refine i_aload_n rfl rfl ?_
  refine i_getf rfl rfl rfl rfl (by decide) ?_
  refine i_iload_n rfl rfl ?_
  refine i_iadd rfl (by unfold iR; omega) ?_
  refine i_aload_n rfl rfl ?_
  refine i_getf rfl rfl rfl rfl (by decide) ?_
  refine i_icmp_le_t rfl (by first | omega | assumption) ?_
  refine i_iconst (n := 0) rfl (by unfold iR; omega) ?_
  refine i_istore_n rfl (Nat.le_of_ble_eq_true rfl) rfl ?_
  refine i_iconst (n := 0) rfl (by unfold iR; omega) ?_
  refine i_istore_n rfl (Nat.le_of_ble_eq_true rfl) rfl ?_
  -- at 19
  exact h0
set_option maxRecDepth 100000 in
theorem c_takeF {b : Bool} {M : iM} {B : Nat → Int} {m a n : Nat} (hB : BS M B m a) (hm : m ≤ 256) (ha : a ≤ 8 * m) (hn : n ≤ 12) (h : 8 * m < a + n) : irun none zp_81 0 (i_ent [iP 28, iI (n : Int)] 4) [] (SH b) M 0 0 (some (-1), SH b, M) := by
  obtain ⟨h1, h2, h3⟩ := hB
  refine i_aload_n rfl rfl ?_
  refine i_getf rfl rfl rfl rfl (by decide) ?_
  refine i_iload_n rfl rfl ?_
  refine i_iadd rfl (by unfold iR; omega) ?_
  refine i_aload_n rfl rfl ?_
  refine i_getf rfl rfl rfl rfl (by decide) ?_
  refine i_icmp_le_f rfl (by first | omega | assumption) ?_
  refine i_iconst (n := -1) rfl (by unfold iR; omega) ?_
  -- at 14
  exact i_ireturn rfl rfl
def RB (M : iM) (B : Nat → Int) (m a : Nat) : Prop := M 40 36 = (a : Int) ∧ M 40 37 = (m : Int) ∧ ∀ k, k < m → M 60 (3 + k) = B k
set_option maxRecDepth 100000 in
theorem d_bit {b : Bool} {M : iM} {B : Nat → Int} {m a : Nat} (hB : RB M B m a) (hm : m ≤ 256) (h : a < 8 * m) : irun none zp_131 0 (i_ent [iP 40] 1) [] (SH b) M 0 0 (some (bt B a), SH b, va_up M 40 (va_up (M 40) 36 ((a + 1 : Nat) : Int))) := by
  obtain ⟨h1, h2, h3⟩ := hB
  refine i_aload_n rfl rfl ?_
  refine i_getf rfl rfl rfl rfl (by decide) ?_
  refine i_bipush (n := 8) rfl (by unfold iR; omega) (by decide) ?_
  refine i_aload_n rfl rfl ?_
  refine i_getf rfl rfl rfl rfl (by decide) ?_
  refine i_imul rfl (by unfold iR; omega) ?_
  refine i_icmp_lt_t rfl (by first | omega | assumption) ?_
  refine i_aload_n rfl rfl ?_
  first | refine i_dup rfl ?_ | refine i_dupr rfl ?_
  refine i_getf rfl rfl rfl rfl (by decide) ?_
  refine i_iconst (n := 1) rfl (by unfold iR; omega) ?_
  refine i_iadd rfl (by unfold iR; omega) ?_
  refine i_puti rfl rfl rfl rfl ?_
  -- at 31
  rw [h1, show i_st M 40 36 ((a : Int) + 1) = va_up M 40 (va_up (M 40) 36 ((a + 1 : Nat) : Int)) from rfl]
  refine i_aload_n rfl rfl ?_
  refine i_getr rfl rfl rfl rfl (by decide) rfl ?_
  refine i_iconst (n := 3) rfl (by unfold iR; omega) ?_
  refine i_aload_n rfl rfl ?_
  refine i_getf rfl rfl rfl rfl (by decide) ?_
  -- at 40
  show irun none zp_131 40 _ (iI ((a + 1 : Nat) : Int) :: _) _ _ 0 0 _
  refine i_iconst (n := 1) rfl (by unfold iR; omega) ?_
  refine i_isub rfl (by unfold iR; omega) ?_
  refine i_bipush (n := 8) rfl (by unfold iR; omega) (by decide) ?_
  refine i_idiv rfl (by first | omega | assumption) (by first | omega | assumption) ?_
  refine i_iadd rfl (by unfold iR; omega) ?_
  refine i_iald rfl rfl (by first | omega | assumption) (by first | omega | assumption) (by decide) ?_
  -- at 47
  rw [show (3 + (((a + 1 : Nat) : Int) - 1) / 8).toNat = 3 + a / 8 by omega]
  show irun none zp_131 47 _ (iI (M 60 (3 + a / 8)) :: _) _ _ 0 0 _
  rw [h3 _ (by omega)]
  refine i_bipush (n := 7) rfl (by unfold iR; omega) (by decide) ?_
  refine i_aload_n rfl rfl ?_
  refine i_getf rfl rfl rfl rfl (by decide) ?_
  -- at 53
  show irun none zp_131 53 _ (iI ((a + 1 : Nat) : Int) :: _) _ _ 0 0 _
  refine i_iconst (n := 1) rfl (by unfold iR; omega) ?_
  refine i_isub rfl (by unfold iR; omega) ?_
  refine i_bipush (n := 8) rfl (by unfold iR; omega) (by decide) ?_
  refine i_irem rfl (by first | omega | assumption) (by first | omega | assumption) ?_
  refine i_isub rfl (by unfold iR; omega) ?_
  refine i_ishr rfl (by first | omega | assumption) (by first | omega | assumption) ?_
  refine i_iconst (n := 1) rfl (by unfold iR; omega) ?_
  refine i_iand 1 rfl (by decide) (by decide) ?_
  -- at 62
  rw [show (7 - (((a + 1 : Nat) : Int) - 1) % 8).toNat = 7 - a % 8 by omega]
  show irun none zp_131 62 _ (iI (bt B a) :: _) _ _ 0 0 _
  exact i_ireturn rfl rfl
set_option maxRecDepth 100000 in
theorem d_bitF {b : Bool} {M : iM} {B : Nat → Int} {m a : Nat} (hB : RB M B m a) (hm : m ≤ 256) (ha : a ≤ 8 * m) (h : 8 * m ≤ a) : irun none zp_131 0 (i_ent [iP 40] 1) [] (SH b) M 0 0 (some 0, SH b, va_up M 40 (va_up (M 40) 39 1)) := by
  obtain ⟨h1, h2, h3⟩ := hB
  refine i_aload_n rfl rfl ?_
  refine i_getf rfl rfl rfl rfl (by decide) ?_
  refine i_bipush (n := 8) rfl (by unfold iR; omega) (by decide) ?_
  refine i_aload_n rfl rfl ?_
  refine i_getf rfl rfl rfl rfl (by decide) ?_
  refine i_imul rfl (by unfold iR; omega) ?_
  refine i_icmp_lt_f rfl (by first | omega | assumption) ?_
  refine i_aload_n rfl rfl ?_
  refine i_iconst (n := 1) rfl (by unfold iR; omega) ?_
  refine i_putz rfl rfl rfl rfl (by first | omega | assumption) ?_
  refine i_iconst (n := 0) rfl (by unfold iR; omega) ?_
  -- at 20
  exact i_ireturn rfl rfl
set_option maxRecDepth 100000 in
theorem d_num {b : Bool} {M : iM} {B : Nat → Int} {m a n : Nat} (hB : RB M B m a) (hm : m ≤ 256) (hn : n ≤ 12) (h : a + n ≤ 8 * m) : irun none zp_132 0 (i_ent [iP 40, iI (n : Int)] 4) [] (SH b) M 0 0 (some (nv B a n), SH b, va_up M 40 (va_up (M 40) 36 ((a + n : Nat) : Int))) := by
  obtain ⟨h1, h2, h3⟩ := hB
  have loop : ∀ (c i : Nat), i + c = n → irun none zp_132 4 [some (iP 40), some (iI (n : Int)), some (iI (nv B a i)), some (iI (i : Int))] [] (SH b) (va_up M 40 (va_up (M 40) 36 ((a + i : Nat) : Int))) 0 0 (some (nv B a n), SH b, va_up M 40 (va_up (M 40) 36 ((a + n : Nat) : Int))) := by
    intro c
    induction c with
    | zero =>
      intro i hi
      obtain rfl : i = n := by omega
      refine i_iload_n rfl rfl ?_
      refine i_iload_n rfl rfl ?_
      refine i_icmp_ge_t rfl (by first | omega | assumption) ?_
      refine i_iload_n rfl rfl ?_
      -- at 25
      exact i_ireturn rfl rfl
    | succ c ih =>
      intro i hi
      have hnx := ih (i + 1) (by omega)
      have v1 := nv_b B a i
      have v2 := p2_b i (by omega)
      have v3 := bt_b B (a + i)
      have hb := d_bit (b := b) (M := va_up M 40 (va_up (M 40) 36 ((a + i : Nat) : Int))) (B := B) (m := m) (a := a + i) ⟨rfl, h2, h3⟩ hm (by omega)
      rw [show va_up (va_up M 40 (va_up (M 40) 36 ((a + i : Nat) : Int))) 40 (va_up ((va_up M 40 (va_up (M 40) 36 ((a + i : Nat) : Int))) 40) 36 ((a + i + 1 : Nat) : Int)) = va_up M 40 (va_up (M 40) 36 ((a + (i + 1) : Nat) : Int)) by
        rw [up_up]
        congr 1
        funext j
        by_cases e : j = 36
        · rw [e, up_s, up_s]; omega
        · rw [up_n e, up_n e]
          show (va_up (M 40) 36 ((a + i : Nat) : Int)) j = _
          rw [up_n e]] at hb
      refine i_iload_n rfl rfl ?_
      refine i_iload_n rfl rfl ?_
      refine i_icmp_ge_f rfl (by first | omega | assumption) ?_
      refine i_iconst (n := 2) rfl (by unfold iR; omega) ?_
      refine i_iload_n rfl rfl ?_
      refine i_imul rfl (by unfold iR; omega) ?_
      refine i_aload_n rfl rfl ?_
      -- at 13
      refine i_call (T := (131, zp_131)) rfl rfl (hb) rfl rfl rfl rfl rfl rfl rfl ?_
      try dsimp only
      show irun none zp_132 16 _ (iI (bt B (a + i)) :: _) _ _ 0 0 _
      refine i_iadd rfl (by unfold iR; omega) ?_
      refine i_istore_n rfl (Nat.le_of_ble_eq_true rfl) rfl ?_
      refine i_iinc rfl rfl (by unfold iR; omega) (Nat.le_of_ble_eq_true rfl) rfl ?_
      refine i_goto rfl ?_
      -- at 4
      exact hnx
  have h0 := loop n 0 (by omega)
  rw [up_id M 40 (f := va_up (M 40) 36 ((a + 0 : Nat) : Int)) (by
    funext j
    by_cases e : j = 36
    · rw [e, up_s, h1]; rfl
    · rw [up_n e])] at h0
  refine i_iconst (n := 0) rfl (by unfold iR; omega) ?_
  refine i_istore_n rfl (Nat.le_of_ble_eq_true rfl) rfl ?_
  refine i_iconst (n := 0) rfl (by unfold iR; omega) ?_
  refine i_istore_n rfl (Nat.le_of_ble_eq_true rfl) rfl ?_
  -- at 4
  exact h0
set_option maxRecDepth 100000 in
theorem d_numF {b : Bool} {M : iM} {B : Nat → Int} {m a n : Nat} (hB : RB M B m a) (hm : m ≤ 256) (ha : a ≤ 8 * m) (hn : n ≤ 12) (h : 8 * m < a + n ∨ M 40 39 = 1) : ∃ (r : Int) (Q : Nat → Int) (a' : Nat), irun none zp_132 0 (i_ent [iP 40, iI (n : Int)] 4) [] (SH b) M 0 0 (some r, SH b, va_up M 40 Q) ∧ (0 ≤ r ∧ r < 2 ^ n) ∧ Q 36 = (a' : Int) ∧ a' ≤ 8 * m ∧ Q 39 = 1 ∧ ∀ k, k ≠ 36 → k ≠ 39 → Q k = M 40 k := by
  obtain ⟨h1, h2, h3⟩ := hB
  have loop : ∀ (c i : Nat), i + c = n → ∀ (v : Int) (Q : Nat → Int) (a' : Nat), 0 ≤ v → v < 2 ^ i → Q 36 = (a' : Int) → a' ≤ 8 * m → (8 * m < a' + c ∨ Q 39 = 1) → (∀ k, k ≠ 36 → k ≠ 39 → Q k = M 40 k) → ∃ (r : Int) (Q' : Nat → Int) (a' : Nat), irun none zp_132 4 [some (iP 40), some (iI (n : Int)), some (iI v), some (iI (i : Int))] [] (SH b) (va_up M 40 Q) 0 0 (some r, SH b, va_up M 40 Q') ∧ (0 ≤ r ∧ r < 2 ^ n) ∧ Q' 36 = (a' : Int) ∧ a' ≤ 8 * m ∧ Q' 39 = 1 ∧ ∀ k, k ≠ 36 → k ≠ 39 → Q' k = M 40 k := by
    intro c
    induction c with
    | zero =>
      intro i hi v Q a' v0 v1 q1 q2 q3 q4
      obtain rfl : i = n := by omega
      refine ⟨v, Q, a', ?_, ⟨v0, v1⟩, q1, q2, by omega, q4⟩
      refine i_iload_n rfl rfl ?_
      refine i_iload_n rfl rfl ?_
      refine i_icmp_ge_t rfl (by first | omega | assumption) ?_
      refine i_iload_n rfl rfl ?_
      -- at 25
      exact i_ireturn rfl rfl
    | succ c ih =>
      intro i hi v Q a' v0 v1 q1 q2 q3 q4
      have v2 := p2_b i (by omega)
      have v3 := bt_b B a'
      by_cases e : a' < 8 * m
      · have hb := d_bit (b := b) (M := va_up M 40 Q) (B := B) (m := m) (a := a') ⟨q1, (q4 37 (by decide) (by decide)).trans h2, h3⟩ hm e
        rw [up_up, up_s] at hb
        obtain ⟨r, Q', a'', g1, g2⟩ := ih (i + 1) (by omega) (2 * v + bt B a') (va_up Q 36 ((a' + 1 : Nat) : Int)) (a' + 1) (by omega) (by rw [p2_s]; omega) rfl (by omega) (by
          rcases q3 with q3 | q3
          · left; omega
          · right; exact q3) (fun k k1 k2 => by rw [up_n k1]; exact q4 k k1 k2)
        refine ⟨r, Q', a'', ?_, g2⟩
        refine i_iload_n rfl rfl ?_
        refine i_iload_n rfl rfl ?_
        refine i_icmp_ge_f rfl (by first | omega | assumption) ?_
        refine i_iconst (n := 2) rfl (by unfold iR; omega) ?_
        refine i_iload_n rfl rfl ?_
        refine i_imul rfl (by unfold iR; omega) ?_
        refine i_aload_n rfl rfl ?_
        -- at 13
        refine i_call (T := (131, zp_131)) rfl rfl (hb) rfl rfl rfl rfl rfl rfl rfl ?_
        try dsimp only
        show irun none zp_132 16 _ (iI (bt B a') :: _) _ _ 0 0 _
        refine i_iadd rfl (by unfold iR; omega) ?_
        refine i_istore_n rfl (Nat.le_of_ble_eq_true rfl) rfl ?_
        refine i_iinc rfl rfl (by unfold iR; omega) (Nat.le_of_ble_eq_true rfl) rfl ?_
        refine i_goto rfl ?_
        -- at 4
        exact g1
      · have hb := d_bitF (b := b) (M := va_up M 40 Q) (B := B) (m := m) (a := a') ⟨q1, (q4 37 (by decide) (by decide)).trans h2, h3⟩ hm q2 (by omega)
        rw [up_up, up_s] at hb
        obtain ⟨r, Q', a'', g1, g2⟩ := ih (i + 1) (by omega) (2 * v + 0) (va_up Q 39 1) a' (by omega) (by rw [p2_s]; omega) q1 q2 (Or.inr rfl) (fun k k1 k2 => by rw [up_n k2]; exact q4 k k1 k2)
        refine ⟨r, Q', a'', ?_, g2⟩
        refine i_iload_n rfl rfl ?_
        refine i_iload_n rfl rfl ?_
        refine i_icmp_ge_f rfl (by first | omega | assumption) ?_
        refine i_iconst (n := 2) rfl (by unfold iR; omega) ?_
        refine i_iload_n rfl rfl ?_
        refine i_imul rfl (by unfold iR; omega) ?_
        refine i_aload_n rfl rfl ?_
        -- at 13
        refine i_call (T := (131, zp_131)) rfl rfl (hb) rfl rfl rfl rfl rfl rfl rfl ?_
        try dsimp only
        show irun none zp_132 16 _ (iI (0) :: _) _ _ 0 0 _
        refine i_iadd rfl (by unfold iR; omega) ?_
        refine i_istore_n rfl (Nat.le_of_ble_eq_true rfl) rfl ?_
        refine i_iinc rfl rfl (by unfold iR; omega) (Nat.le_of_ble_eq_true rfl) rfl ?_
        refine i_goto rfl ?_
        -- at 4
        exact g1
  obtain ⟨r, Q', a', g1, g2⟩ := loop n 0 (by omega) 0 (M 40) a (by decide) (by decide) h1 ha h (fun _ _ _ => rfl)
  rw [up_id M 40 rfl] at g1
  refine ⟨r, Q', a', ?_, g2⟩
  refine i_iconst (n := 0) rfl (by unfold iR; omega) ?_
  refine i_istore_n rfl (Nat.le_of_ble_eq_true rfl) rfl ?_
  refine i_iconst (n := 0) rfl (by unfold iR; omega) ?_
  refine i_istore_n rfl (Nat.le_of_ble_eq_true rfl) rfl ?_
  -- at 4
  exact g1
