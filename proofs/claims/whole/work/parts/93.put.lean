/-- rows of bits, the bytes that they make, the bits of a value from the highest on -/
def lb (l : List Int) (i : Nat) : Int := l.getD i 0
def pkN (l : List Int) (k : Nat) : Nat → Int
  | 0 => 0
  | r + 1 => 2 * pkN l k r + lb l (8 * k + r)
def pk (l : List Int) (k : Nat) : Int := pkN l k 8
def vb (v : Int) : Nat → List Int
  | 0 => []
  | n + 1 => (v / 2 ^ n % 2) :: vb v n
def B01 (l : List Int) : Prop := ∀ i, lb l i = 0 ∨ lb l i = 1
theorem lb_app {l : List Int} {b : Int} {i : Nat} : lb (l ++ [b]) i = if i = l.length then b else lb l i := by
  unfold lb
  rw [List.getD_eq_getElem?_getD, List.getD_eq_getElem?_getD, List.getElem?_append]
  by_cases h : i < l.length
  · rw [if_pos h, if_neg (by omega)]
  · rw [if_neg h]
    by_cases e : i = l.length
    · rw [if_pos e, e, Nat.sub_self]; rfl
    · rw [if_neg e, List.getElem?_eq_none (by simp; omega), List.getElem?_eq_none (by omega)]
theorem lb_out {l : List Int} {i : Nat} (h : l.length ≤ i) : lb l i = 0 := by
  unfold lb
  rw [List.getD_eq_getElem?_getD, List.getElem?_eq_none h]
  rfl
theorem B01_app {l : List Int} {b : Int} (h : B01 l) (hb : b = 0 ∨ b = 1) : B01 (l ++ [b]) := by
  intro i
  rw [lb_app]
  split
  · exact hb
  · exact h i
theorem B01_nil : B01 [] := fun _ => Or.inl rfl
theorem pkN_b {l : List Int} (h : B01 l) (k : Nat) : ∀ r, 0 ≤ pkN l k r ∧ pkN l k r < 2 ^ r := by
  intro r
  induction r with
  | zero => exact ⟨Int.le_refl _, by show (0 : Int) < 1; decide⟩
  | succ r ih =>
    have := h (8 * k + r)
    rw [p2_s]
    unfold pkN
    omega
theorem pk_b {l : List Int} (h : B01 l) (k : Nat) : 0 ≤ pk l k ∧ pk l k < 256 := pkN_b h k 8
theorem pkN_out {l : List Int} {k : Nat} (h : l.length ≤ 8 * k) : ∀ r, pkN l k r = 0 := by
  intro r
  induction r with
  | zero => rfl
  | succ r ih =>
    unfold pkN
    rw [ih, lb_out (by omega)]
    rfl
theorem pk_out {l : List Int} {k : Nat} (h : l.length ≤ 8 * k) : pk l k = 0 := pkN_out h 8
theorem pkN_ext {l : List Int} {k r : Nat} (h : l.length ≤ 8 * k + r) : ∀ j, pkN l k (r + j) = pkN l k r * 2 ^ j := by
  intro j
  induction j with
  | zero => show pkN l k r = pkN l k r * 1; omega
  | succ j ih =>
    show 2 * pkN l k (r + j) + lb l (8 * k + (r + j)) = _
    rw [ih, lb_out (by omega), p2_s, Int.mul_left_comm]
    omega
theorem pkN_app {l : List Int} {b : Int} {k : Nat} : ∀ r, (∀ i, i < r → 8 * k + i ≠ l.length) → pkN (l ++ [b]) k r = pkN l k r := by
  intro r
  induction r with
  | zero => intro _; rfl
  | succ r ih =>
    intro h
    unfold pkN
    rw [ih (fun i hi => h i (by omega)), lb_app, if_neg (h r (by omega))]
theorem pk_other {l : List Int} {b : Int} {k : Nat} (h : k ≠ l.length / 8) : pk (l ++ [b]) k = pk l k := pkN_app 8 (fun i hi => by omega)
theorem pk_here {l : List Int} {b : Int} : pk (l ++ [b]) (l.length / 8) = pk l (l.length / 8) + b * 2 ^ (7 - l.length % 8) ∧ pk l (l.length / 8) = pkN l (l.length / 8) (l.length % 8) * 2 ^ (7 - l.length % 8 + 1) := by
  have h1 := pkN_ext (l := l) (k := l.length / 8) (r := l.length % 8) (by omega) (7 - l.length % 8 + 1)
  have h2 := pkN_ext (l := l ++ [b]) (k := l.length / 8) (r := l.length % 8 + 1) (by simp; omega) (7 - l.length % 8)
  rw [show l.length % 8 + (7 - l.length % 8 + 1) = 8 by omega] at h1
  rw [show l.length % 8 + 1 + (7 - l.length % 8) = 8 by omega] at h2
  refine ⟨?_, h1⟩
  show pkN _ _ 8 = pkN _ _ 8 + _
  rw [h1, h2, show pkN (l ++ [b]) (l.length / 8) (l.length % 8 + 1) = 2 * pkN (l ++ [b]) (l.length / 8) (l.length % 8) + lb (l ++ [b]) (8 * (l.length / 8) + l.length % 8) from rfl, pkN_app _ (fun i hi => by omega), lb_app, if_pos (by omega), p2_s, Int.add_mul, ← Int.mul_assoc, Int.mul_comm 2]
theorem or_add : ∀ j : Nat, j < 8 → ∀ y : Nat, y < 2 ^ (7 - j) → ∀ b : Nat, b < 2 → (y * 2 ^ (j + 1)) ||| (b * 2 ^ j) = y * 2 ^ (j + 1) + b * 2 ^ j := by decide +kernel
theorem io_add {x y b : Int} {j : Nat} (hj : j < 8) (hx : x = y * 2 ^ (j + 1)) (hy0 : 0 ≤ y) (hy : y < 2 ^ (7 - j)) (hb : b = 0 ∨ b = 1) : io x (b * 2 ^ j) = x + b * 2 ^ j := by
  obtain ⟨n, rfl⟩ := Int.eq_ofNat_of_zero_le hy0
  have h2 : ∀ j : Nat, j < 9 → (2 : Int) ^ j = ((2 ^ j : Nat) : Int) := by decide
  have hn : n < 2 ^ (7 - j) := by
    rw [h2 _ (by omega)] at hy
    exact Int.ofNat_lt.mp hy
  obtain ⟨c, rfl, hc⟩ : ∃ c : Nat, b = (c : Int) ∧ c < 2 := by
    rcases hb with rfl | rfl
    · exact ⟨0, rfl, by decide⟩
    · exact ⟨1, rfl, by decide⟩
  have key := or_add j hj n hn c hc
  rw [hx, h2 j (by omega), h2 (j + 1) (by omega), ← Int.natCast_mul, ← Int.natCast_mul]
  unfold io
  rw [Int.toNat_natCast, Int.toNat_natCast, key, Int.natCast_add]
def BW (M : iM) (l : List Int) : Prop := M 28 1 = (l.length : Int) ∧ (∀ k, 8 * k < l.length → M 29 k = pk l k) ∧ B01 l
set_option maxRecDepth 100000 in
theorem c_putBit {b : Bool} {M : iM} {l : List Int} {v : Int} (h : BW M l) (hl : l.length < 2048) (hv : v = 0 ∨ v = 1) : ∃ M', irun none zp_80 0 (i_ent [iP 28, iI v] 3) [] (SH b) M 0 0 (none, SH b, M') ∧ Fr [28, 29] M M' ∧ BW M' (l ++ [v]) := by
  obtain ⟨h1, h2, h3⟩ := h
  have hk : ((l.length : Int) / 8).toNat = l.length / 8 := by omega
  have hj : (7 - (l.length : Int) % 8).toNat = 7 - l.length % 8 := by omega
  have pb := pk_b h3 (l.length / 8)
  obtain ⟨e1, e2⟩ := pk_here (l := l) (b := v)
  have yb := pkN_b h3 (l.length / 8) (l.length % 8)
  have hio := io_add (x := pk l (l.length / 8)) (b := v) (j := 7 - l.length % 8) (by omega) e2 yb.1 (by rw [show 7 - (7 - l.length % 8) = l.length % 8 by omega]; exact yb.2) hv
  have p2 := p2_b (7 - l.length % 8) (by omega)
  have p3 : (2 : Int) ^ (7 - l.length % 8) ≤ 128 := by
    have : ∀ r : Nat, r < 8 → (2 : Int) ^ (7 - r) ≤ 128 := by decide
    exact this _ (by omega)
  have hR : iR (v * 2 ^ (7 - (l.length : Int) % 8).toNat) := by
    rw [hj]
    unfold iR
    rcases hv with rfl | rfl <;> omega
  have hv0 : 0 ≤ v * 2 ^ (7 - l.length % 8) := by rcases hv with rfl | rfl <;> omega
  refine ⟨i_st (va_up M 29 (va_up (M 29) (l.length / 8) (pk (l ++ [v]) (l.length / 8)))) 28 1 ((l.length : Int) + 1), ?_, Fr_st (Fr_up (Fr_r _ _) (by decide)) (by decide), ?_, ?_, B01_app h3 hv⟩
  · rw [e1, ← hio]
    by_cases c : l.length % 8 = 0
    · have p0 : pk l (l.length / 8) = 0 := pk_out (by omega)
      refine i_aload_n rfl rfl ?_
      refine i_getf rfl rfl rfl rfl (by decide) ?_
      refine i_bipush (n := 8) rfl (by unfold iR; omega) (by decide) ?_
      -- at 6
      rw [h1]
      refine i_idiv rfl (by first | omega | assumption) (by first | omega | assumption) ?_
      refine i_istore_n rfl (Nat.le_of_ble_eq_true rfl) rfl ?_
      refine i_iload_n rfl rfl ?_
      refine i_sipush (n := 256) rfl (by unfold iR; omega) (by decide) ?_
      refine i_icmp_lt_t rfl (by first | omega | assumption) ?_
      refine i_aload_n rfl rfl ?_
      refine i_getf rfl rfl rfl rfl (by decide) ?_
      -- at 20
      rw [h1]
      refine i_bipush (n := 8) rfl (by unfold iR; omega) (by decide) ?_
      refine i_irem rfl (by first | omega | assumption) (by first | omega | assumption) ?_
      refine i_if_ne_f rfl (by first | omega | assumption) ?_
      refine i_aload_n rfl rfl ?_
      refine i_getr rfl rfl rfl rfl (by decide) rfl ?_
      refine i_iload_n rfl rfl ?_
      refine i_iconst (n := 0) rfl (by unfold iR; omega) ?_
      refine i_iast rfl rfl (by first | omega | assumption) (by first | omega | assumption) ?_
      refine i_aload_n rfl rfl ?_
      refine i_getr rfl rfl rfl rfl (by decide) rfl ?_
      refine i_iload_n rfl rfl ?_
      refine i_dup2 rfl ?_
      -- at 39
      rw [hk]
      refine i_iald rfl rfl (by first | omega | assumption) (by first | omega | assumption) (by decide) ?_
      -- at 40
      rw [hk]
      show irun none zp_80 40 _ (iI (va_up (M 29) (l.length / 8) 0 (l.length / 8)) :: _) _ _ 0 0 _
      rw [up_s]
      refine i_iload_n rfl rfl ?_
      refine i_bipush (n := 7) rfl (by unfold iR; omega) (by decide) ?_
      refine i_aload_n rfl rfl ?_
      refine i_getf rfl rfl rfl rfl (by decide) ?_
      -- at 47
      show irun none zp_80 47 _ (iI (M 28 1) :: _) _ _ 0 0 _
      rw [h1]
      refine i_bipush (n := 8) rfl (by unfold iR; omega) (by decide) ?_
      refine i_irem rfl (by first | omega | assumption) (by first | omega | assumption) ?_
      refine i_isub rfl (by unfold iR; omega) ?_
      refine i_ishl rfl (by first | omega | assumption) (by first | omega | assumption) (by first | omega | assumption) (by first | assumption | (unfold iR; omega)) ?_
      -- at 52
      rw [hj]
      refine i_ior rfl (by first | omega | assumption) (by first | omega | assumption) ?_
      refine i_iast rfl rfl (by first | omega | assumption) (by first | omega | assumption) ?_
      refine i_aload_n rfl rfl ?_
      first | refine i_dup rfl ?_ | refine i_dupr rfl ?_
      refine i_getf rfl rfl rfl rfl (by decide) ?_
      -- at 59
      show irun none zp_80 59 _ (iI (M 28 1) :: _) _ _ 0 0 _
      rw [h1, hk]
      refine i_iconst (n := 1) rfl (by unfold iR; omega) ?_
      refine i_iadd rfl (by unfold iR; omega) ?_
      refine i_puti rfl rfl rfl rfl ?_
      -- at 64
      rw [show i_st (i_st M 29 (l.length / 8) 0) 29 (l.length / 8) (io 0 (v * 2 ^ (7 - l.length % 8))) = va_up M 29 (va_up (M 29) (l.length / 8) (io (pk l (l.length / 8)) (v * 2 ^ (7 - l.length % 8)))) by
        rw [p0, show i_st M 29 (l.length / 8) 0 = va_up M 29 (va_up (M 29) (l.length / 8) 0) from rfl, up_st]
        refine up_c ?_
        funext j
        by_cases e : j = l.length / 8
        · rw [e, up_s, up_s]
        · rw [up_n e, up_n e, up_n e]]
      exact i_vreturn rfl rfl
    · have hv29 := h2 (l.length / 8) (by omega)
      refine i_aload_n rfl rfl ?_
      refine i_getf rfl rfl rfl rfl (by decide) ?_
      refine i_bipush (n := 8) rfl (by unfold iR; omega) (by decide) ?_
      -- at 6
      rw [h1]
      refine i_idiv rfl (by first | omega | assumption) (by first | omega | assumption) ?_
      refine i_istore_n rfl (Nat.le_of_ble_eq_true rfl) rfl ?_
      refine i_iload_n rfl rfl ?_
      refine i_sipush (n := 256) rfl (by unfold iR; omega) (by decide) ?_
      refine i_icmp_lt_t rfl (by first | omega | assumption) ?_
      refine i_aload_n rfl rfl ?_
      refine i_getf rfl rfl rfl rfl (by decide) ?_
      -- at 20
      rw [h1]
      refine i_bipush (n := 8) rfl (by unfold iR; omega) (by decide) ?_
      refine i_irem rfl (by first | omega | assumption) (by first | omega | assumption) ?_
      refine i_if_ne_t rfl (by first | omega | assumption) ?_
      refine i_aload_n rfl rfl ?_
      refine i_getr rfl rfl rfl rfl (by decide) rfl ?_
      refine i_iload_n rfl rfl ?_
      refine i_dup2 rfl ?_
      refine i_iald rfl rfl (by first | omega | assumption) (by first | omega | assumption) (by decide) ?_
      -- at 40
      rw [hk, hv29]
      refine i_iload_n rfl rfl ?_
      refine i_bipush (n := 7) rfl (by unfold iR; omega) (by decide) ?_
      refine i_aload_n rfl rfl ?_
      refine i_getf rfl rfl rfl rfl (by decide) ?_
      -- at 47
      rw [h1]
      refine i_bipush (n := 8) rfl (by unfold iR; omega) (by decide) ?_
      refine i_irem rfl (by first | omega | assumption) (by first | omega | assumption) ?_
      refine i_isub rfl (by unfold iR; omega) ?_
      refine i_ishl rfl (by first | omega | assumption) (by first | omega | assumption) (by first | omega | assumption) (by first | assumption | (unfold iR; omega)) ?_
      -- at 52
      rw [hj]
      refine i_ior rfl (by first | omega | assumption) (by first | omega | assumption) ?_
      refine i_iast rfl rfl (by first | omega | assumption) (by first | omega | assumption) ?_
      refine i_aload_n rfl rfl ?_
      first | refine i_dup rfl ?_ | refine i_dupr rfl ?_
      refine i_getf rfl rfl rfl rfl (by decide) ?_
      -- at 59
      show irun none zp_80 59 _ (iI (M 28 1) :: _) _ _ 0 0 _
      rw [h1, hk]
      refine i_iconst (n := 1) rfl (by unfold iR; omega) ?_
      refine i_iadd rfl (by unfold iR; omega) ?_
      refine i_puti rfl rfl rfl rfl ?_
      -- at 64
      rw [show i_st M 29 (l.length / 8) (io (pk l (l.length / 8)) (v * 2 ^ (7 - l.length % 8))) = va_up M 29 (va_up (M 29) (l.length / 8) (io (pk l (l.length / 8)) (v * 2 ^ (7 - l.length % 8)))) from rfl]
      exact i_vreturn rfl rfl
  · show (l.length : Int) + 1 = _
    simp
  · intro k hk8
    show va_up (M 29) (l.length / 8) _ k = _
    by_cases e : k = l.length / 8
    · rw [e, up_s]
    · rw [up_n e, pk_other e]
      refine h2 k ?_
      simp at hk8
      omega
set_option maxRecDepth 100000 in
theorem c_put {b : Bool} {M : iM} {l : List Int} {v : Int} {n : Nat} (h : BW M l) (hl : l.length + n ≤ 2048) (hn : n ≤ 30) (hv : 0 ≤ v) : ∃ M', irun none zp_79 0 (i_ent [iP 28, iI v, iI (n : Int)] 4) [] (SH b) M 0 0 (none, SH b, M') ∧ Fr [28, 29] M M' ∧ BW M' (l ++ vb v n) := by
  have loop : ∀ (c : Nat) (M : iM) (l : List Int), c ≤ n → BW M l → l.length + c ≤ 2048 → ∃ M', irun none zp_79 4 [some (iP 28), some (iI v), some (iI (n : Int)), some (iI ((c : Int) - 1))] [] (SH b) M 0 0 (none, SH b, M') ∧ Fr [28, 29] M M' ∧ BW M' (l ++ vb v c) := by
    intro c
    induction c with
    | zero =>
      intro M l hc h hl
      refine ⟨M, ?_, Fr_r _ _, by rw [show vb v 0 = [] from rfl, List.append_nil]; exact h⟩
      refine i_iload_n rfl rfl ?_
      refine i_if_lt_t rfl (by first | omega | assumption) ?_
      -- at 23
      exact i_vreturn rfl rfl
    | succ c ih =>
      intro M l hc h hl
      obtain ⟨M1, k1, k2, k3⟩ := c_putBit (b := b) (v := v / 2 ^ c % 2) h (by omega) (by omega)
      obtain ⟨M', g1, g2, g3⟩ := ih M1 (l ++ [v / 2 ^ c % 2]) (by omega) k3 (by simp; omega)
      refine ⟨M', ?_, Fr_t k2 g2 (by decide), ?_⟩
      · refine i_iload_n rfl rfl ?_
        refine i_if_lt_f rfl (by first | omega | assumption) ?_
        refine i_aload_n rfl rfl ?_
        refine i_iload_n rfl rfl ?_
        refine i_iload_n rfl rfl ?_
        refine i_ishr rfl (by first | omega | assumption) (by first | omega | assumption) ?_
        refine i_iconst (n := 1) rfl (by unfold iR; omega) ?_
        refine i_iand 1 rfl (by decide) (by decide) ?_
        -- at 14
        rw [show (((c + 1 : Nat) : Int) - 1).toNat = c by omega]
        refine i_call (T := (80, zp_80)) rfl rfl (k1) rfl rfl rfl rfl rfl rfl rfl ?_
        try dsimp only
        refine i_iinc rfl rfl (by unfold iR; omega) (Nat.le_of_ble_eq_true rfl) rfl ?_
        refine i_goto rfl ?_
        -- at 4
        rw [show ((c + 1 : Nat) : Int) - 1 + -1 = (c : Int) - 1 by omega]
        exact g1
      · rw [show l ++ vb v (c + 1) = l ++ [v / 2 ^ c % 2] ++ vb v c by
          show l ++ (_ :: vb v c) = _
          rw [List.append_assoc]
          rfl]
        exact g3
  obtain ⟨M', g1, g2⟩ := loop n M l (Nat.le_refl _) h hl
  refine ⟨M', ?_, g2⟩
  refine i_iload_n rfl rfl ?_
  refine i_iconst (n := 1) rfl (by unfold iR; omega) ?_
  refine i_isub rfl (by unfold iR; omega) ?_
  refine i_istore_n rfl (Nat.le_of_ble_eq_true rfl) rfl ?_
  -- at 4
  exact g1
/-- the reference's row of bits: counted alone, or written too -/
def OW (M : iM) (l : List Int) : Prop := M 40 20 = (l.length : Int) ∧ (M 40 21 = 0 ∨ (M 40 21 = 1 ∧ ∀ k, k < 125 → M 50 (3 + k) = pk l k)) ∧ B01 l
def G2 (M M' : iM) : Prop := ∀ k, k ≠ 20 → M' 40 k = M 40 k
theorem G2_t {M M' M'' : iM} (h : G2 M M') (h' : G2 M' M'') : G2 M M'' := fun k a => (h' k a).trans (h k a)
set_option maxRecDepth 100000 in
theorem d_putBit {b : Bool} {M : iM} {l : List Int} {v : Int} (h : OW M l) (hl : l.length < 4000) (hw : M 40 21 = 0 ∨ l.length < 1000) (hv : v = 0 ∨ v = 1) : ∃ M', irun none zp_118 0 (i_ent [iP 40, iI v] 2) [] (SH b) M 0 0 (none, SH b, M') ∧ Fr [40, 50] M M' ∧ G2 M M' ∧ OW M' (l ++ [v]) := by
  obtain ⟨h1, h2, h3⟩ := h
  have tail : ∀ M1 : iM, M1 40 = M 40 → irun none zp_118 52 [some (iP 40), some (iI v)] [] (SH b) M1 0 0 (none, SH b, i_st M1 40 20 ((l.length : Int) + 1)) := by
    intro M1 e
    refine i_aload_n rfl rfl ?_
    first | refine i_dup rfl ?_ | refine i_dupr rfl ?_
    refine i_getf rfl rfl rfl rfl (by decide) ?_
    -- at 57
    rw [e, h1]
    refine i_iconst (n := 1) rfl (by unfold iR; omega) ?_
    refine i_iadd rfl (by unfold iR; omega) ?_
    refine i_puti rfl rfl rfl rfl ?_
    -- at 62
    exact i_vreturn rfl rfl
  have hlen : (l.length : Int) + 1 = ((l ++ [v]).length : Int) := by simp
  rcases h2 with h2 | ⟨h2, h4⟩
  · refine ⟨i_st M 40 20 ((l.length : Int) + 1), ?_, Fr_st (Fr_r _ _) (by decide), fun k hk => up_n hk, hlen, Or.inl h2, B01_app h3 hv⟩
    refine i_aload_n rfl rfl ?_
    refine i_getf rfl rfl rfl rfl (by decide) ?_
    refine i_if_eq_t rfl (by first | omega | assumption) ?_
    -- at 52
    exact tail M rfl
  · have hw : l.length < 1000 := by omega
    rcases hv with rfl | rfl
    · refine ⟨i_st M 40 20 ((l.length : Int) + 1), ?_, Fr_st (Fr_r _ _) (by decide), fun k hk => up_n hk, hlen, Or.inr ⟨h2, fun k hk => ?_⟩, B01_app h3 (Or.inl rfl)⟩
      · refine i_aload_n rfl rfl ?_
        refine i_getf rfl rfl rfl rfl (by decide) ?_
        refine i_if_eq_f rfl (by first | omega | assumption) ?_
        refine i_iload_n rfl rfl ?_
        refine i_iconst (n := 1) rfl (by unfold iR; omega) ?_
        refine i_icmp_ne_t rfl (by first | omega | assumption) ?_
        -- at 52
        exact tail M rfl
      · show M 50 (3 + k) = _
        rw [h4 k hk]
        by_cases e : k = l.length / 8
        · rw [e, pk_here.1]
          omega
        · rw [pk_other e]
    · obtain ⟨e1, e2⟩ := pk_here (l := l) (b := 1)
      have pb := pk_b h3 (l.length / 8)
      have yb := pkN_b h3 (l.length / 8) (l.length % 8)
      have hio := io_add (x := pk l (l.length / 8)) (b := 1) (j := 7 - l.length % 8) (by omega) e2 yb.1 (by rw [show 7 - (7 - l.length % 8) = l.length % 8 by omega]; exact yb.2) (Or.inr rfl)
      have hk : (3 + (l.length : Int) / 8).toNat = 3 + l.length / 8 := by omega
      have p128 : (128 : Int) / 2 ^ ((l.length : Int) % 8).toNat = 1 * 2 ^ (7 - l.length % 8) := by
        rw [show ((l.length : Int) % 8).toNat = l.length % 8 by omega]
        have : ∀ r : Nat, r < 8 → (128 : Int) / 2 ^ r = 1 * 2 ^ (7 - r) := by decide
        exact this _ (by omega)
      have p2 := p2_b (7 - l.length % 8) (by omega)
      have hval := h4 (l.length / 8) (by omega)
      refine ⟨i_st (i_st M 50 (3 + l.length / 8) (pk (l ++ [1]) (l.length / 8))) 40 20 ((l.length : Int) + 1), ?_, Fr_st (Fr_st (Fr_r _ _) (by decide)) (by decide), fun k hk => up_n hk, hlen, Or.inr ⟨h2, fun k hk => ?_⟩, B01_app h3 (Or.inr rfl)⟩
      · rw [e1, ← hio]
        refine i_aload_n rfl rfl ?_
        refine i_getf rfl rfl rfl rfl (by decide) ?_
        refine i_if_eq_f rfl (by first | omega | assumption) ?_
        refine i_iload_n rfl rfl ?_
        refine i_iconst (n := 1) rfl (by unfold iR; omega) ?_
        refine i_icmp_ne_f rfl (by first | omega | assumption) ?_
        refine i_aload_n rfl rfl ?_
        refine i_getr rfl rfl rfl rfl (by decide) rfl ?_
        refine i_iconst (n := 3) rfl (by unfold iR; omega) ?_
        refine i_aload_n rfl rfl ?_
        refine i_getf rfl rfl rfl rfl (by decide) ?_
        -- at 21
        rw [h1]
        refine i_bipush (n := 8) rfl (by unfold iR; omega) (by decide) ?_
        refine i_idiv rfl (by first | omega | assumption) (by first | omega | assumption) ?_
        refine i_iadd rfl (by unfold iR; omega) ?_
        refine i_aload_n rfl rfl ?_
        refine i_getr rfl rfl rfl rfl (by decide) rfl ?_
        refine i_iconst (n := 3) rfl (by unfold iR; omega) ?_
        refine i_aload_n rfl rfl ?_
        refine i_getf rfl rfl rfl rfl (by decide) ?_
        -- at 34
        rw [h1]
        refine i_bipush (n := 8) rfl (by unfold iR; omega) (by decide) ?_
        refine i_idiv rfl (by first | omega | assumption) (by first | omega | assumption) ?_
        refine i_iadd rfl (by unfold iR; omega) ?_
        refine i_iald rfl rfl (by first | omega | assumption) (by first | omega | assumption) (by decide) ?_
        -- at 39
        rw [hk, hval]
        refine i_sipush (n := 128) rfl (by unfold iR; omega) (by decide) ?_
        refine i_aload_n rfl rfl ?_
        refine i_getf rfl rfl rfl rfl (by decide) ?_
        -- at 46
        rw [h1]
        refine i_bipush (n := 8) rfl (by unfold iR; omega) (by decide) ?_
        refine i_irem rfl (by first | omega | assumption) (by first | omega | assumption) ?_
        refine i_ishr rfl (by first | omega | assumption) (by first | omega | assumption) ?_
        -- at 50
        rw [p128]
        refine i_ior rfl (by first | omega | assumption) (by first | omega | assumption) ?_
        refine i_iast rfl rfl (by first | omega | assumption) (by first | omega | assumption) ?_
        -- at 52
        rw [hk]
        exact tail _ rfl
      · show va_up (M 50) (3 + l.length / 8) _ (3 + k) = _
        by_cases e : k = l.length / 8
        · rw [e, up_s]
        · rw [up_n (by omega), h4 k hk, pk_other e]
set_option maxRecDepth 100000 in
theorem d_low {b : Bool} {M : iM} {l : List Int} {v : Int} {n : Nat} (h : OW M l) (hl : l.length + n ≤ 4000) (hw : M 40 21 = 0 ∨ l.length + n ≤ 1000) (hn : n ≤ 30) (hv : 0 ≤ v) : ∃ M', irun none zp_119 0 (i_ent [iP 40, iI v, iI (n : Int)] 4) [] (SH b) M 0 0 (none, SH b, M') ∧ Fr [40, 50] M M' ∧ G2 M M' ∧ OW M' (l ++ vb v n) := by
  have loop : ∀ (c : Nat) (M : iM) (l : List Int), c ≤ n → OW M l → l.length + c ≤ 4000 → (M 40 21 = 0 ∨ l.length + c ≤ 1000) → ∃ M', irun none zp_119 4 [some (iP 40), some (iI v), some (iI (n : Int)), some (iI ((c : Int) - 1))] [] (SH b) M 0 0 (none, SH b, M') ∧ Fr [40, 50] M M' ∧ G2 M M' ∧ OW M' (l ++ vb v c) := by
    intro c
    induction c with
    | zero =>
      intro M l hc h hl hw
      refine ⟨M, ?_, Fr_r _ _, fun _ _ => rfl, by rw [show vb v 0 = [] from rfl, List.append_nil]; exact h⟩
      refine i_iload_n rfl rfl ?_
      refine i_if_lt_t rfl (by first | omega | assumption) ?_
      -- at 23
      exact i_vreturn rfl rfl
    | succ c ih =>
      intro M l hc h hl hw
      obtain ⟨M1, k1, k2, k3, k4⟩ := d_putBit (b := b) (v := v / 2 ^ c % 2) h (by omega) (by omega) (by omega)
      obtain ⟨M', g1, g2, g3, g4⟩ := ih M1 (l ++ [v / 2 ^ c % 2]) (by omega) k4 (by simp; omega) (by
        rw [k3 21 (by decide)]
        rcases hw with hw | hw
        · exact Or.inl hw
        · right
          simp
          omega)
      refine ⟨M', ?_, Fr_t k2 g2 (by decide), G2_t k3 g3, ?_⟩
      · refine i_iload_n rfl rfl ?_
        refine i_if_lt_f rfl (by first | omega | assumption) ?_
        refine i_aload_n rfl rfl ?_
        refine i_iload_n rfl rfl ?_
        refine i_iload_n rfl rfl ?_
        refine i_ishr rfl (by first | omega | assumption) (by first | omega | assumption) ?_
        refine i_iconst (n := 1) rfl (by unfold iR; omega) ?_
        refine i_iand 1 rfl (by decide) (by decide) ?_
        -- at 14
        rw [show (((c + 1 : Nat) : Int) - 1).toNat = c by omega]
        refine i_call (T := (118, zp_118)) rfl rfl (k1) rfl rfl rfl rfl rfl rfl rfl ?_
        try dsimp only
        refine i_iinc rfl rfl (by unfold iR; omega) (Nat.le_of_ble_eq_true rfl) rfl ?_
        refine i_goto rfl ?_
        -- at 4
        rw [show ((c + 1 : Nat) : Int) - 1 + -1 = (c : Int) - 1 by omega]
        exact g1
      · rw [show l ++ vb v (c + 1) = l ++ [v / 2 ^ c % 2] ++ vb v c by
          show l ++ (_ :: vb v c) = _
          rw [List.append_assoc]
          rfl]
        exact g4
  obtain ⟨M', g1, g2⟩ := loop n M l (Nat.le_refl _) h hl hw
  refine ⟨M', ?_, g2⟩
  refine i_iload_n rfl rfl ?_
  refine i_iconst (n := 1) rfl (by unfold iR; omega) ?_
  refine i_isub rfl (by unfold iR; omega) ?_
  refine i_istore_n rfl (Nat.le_of_ble_eq_true rfl) rfl ?_
  -- at 4
  exact g1
theorem vb_len (v : Int) : ∀ n, (vb v n).length = n := by
  intro n
  induction n with
  | zero => rfl
  | succ n ih =>
    show (vb v n).length + 1 = _
    rw [ih]
