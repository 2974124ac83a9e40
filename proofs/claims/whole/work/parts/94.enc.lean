def eS (S : Nat → Int) : Nat → List Int
  | 0 => []
  | k + 1 => eS S k ++ vb (S k) 8
theorem eS_len (S : Nat → Int) : ∀ k, (eS S k).length = 8 * k := by
  intro k
  induction k with
  | zero => rfl
  | succ k ih =>
    unfold eS
    rw [List.length_append, ih, vb_len]
    omega
def ml (S : Nat → Int) (n i d : Nat) : Nat → Nat → Nat
  | 0, len => len
  | c + 1, len => if i + len < n ∧ S (i + len) = S (i + len - d) then ml S n i d c (len + 1) else len
abbrev mlen (S : Nat → Int) (n i d : Nat) : Nat := ml S n i d 9 0
theorem ml_b {S : Nat → Int} {n i d : Nat} : ∀ (c len : Nat), i + len ≤ n → ml S n i d c len ≤ len + c ∧ i + ml S n i d c len ≤ n := by
  intro c
  induction c with
  | zero => intro len h; exact ⟨Nat.le_refl _, h⟩
  | succ c ih =>
    intro len h
    unfold ml
    split
    · have := ih (len + 1) (by omega)
      omega
    · omega
def cN (S : Nat → Int) (n i : Nat) : Nat → Nat × Int
  | 0 => (0, -1)
  | k + 1 => if (cN S n i k).2 < (mlen S n i (k + 1) : Int) then (k + 1, (mlen S n i (k + 1) : Int)) else cN S n i k
def rN (S : Nat → Int) (n i : Nat) : Nat → Nat × Nat
  | 0 => (0, 1)
  | k + 1 => if (rN S n i k).2 < mlen S n i (k + 1) then (k + 1, mlen S n i (k + 1)) else rN S n i k
theorem cN_ok {S : Nat → Int} {n i : Nat} : ∀ k, ((cN S n i k).1 ≤ k ∧ -1 ≤ (cN S n i k).2 ∧ (cN S n i k).2 ≤ 9 ∨ n < i) ∧ (((cN S n i k).1 = 0 ∧ (cN S n i k).2 = -1) ∨ (1 ≤ (cN S n i k).1 ∧ (cN S n i k).2 = (mlen S n i (cN S n i k).1 : Int))) ∧ rN S n i k = (if 2 ≤ (cN S n i k).2 then ((cN S n i k).1, (cN S n i k).2.toNat) else (0, 1)) := by
  intro k
  induction k with
  | zero => exact ⟨Or.inl ⟨Nat.le_refl _, by show (-1 : Int) ≤ -1; decide, by show (-1 : Int) ≤ 9; decide⟩, Or.inl ⟨rfl, rfl⟩, rfl⟩
  | succ k ih =>
    obtain ⟨h1, h2, h3⟩ := ih
    by_cases hni : n < i
    · refine ⟨Or.inr hni, ?_, ?_⟩
      · unfold cN
        split
        · exact Or.inr ⟨by show 1 ≤ k + 1; omega, rfl⟩
        · exact h2
      · unfold rN cN
        rw [h3]
        by_cases c : (cN S n i k).2 < (mlen S n i (k + 1) : Int)
        · rw [if_pos c]
          by_cases c2 : 2 ≤ (cN S n i k).2
          · rw [if_pos c2, if_pos (by show _ < _; omega), if_pos (by show (2 : Int) ≤ _; omega)]
            rfl
          · rw [if_neg c2]
            by_cases c3 : 2 ≤ (mlen S n i (k + 1) : Int)
            · rw [if_pos (by show 1 < _; omega), if_pos c3]
              rfl
            · rw [if_neg (by show ¬ 1 < _; omega), if_neg c3]
        · rw [if_neg c]
          by_cases c2 : 2 ≤ (cN S n i k).2
          · rw [if_pos c2, if_neg (by show ¬ _ < _; omega)]
          · rw [if_neg c2, if_neg (by show ¬ 1 < _; omega)]
    · have hb : mlen S n i (k + 1) ≤ 0 + 9 ∧ i + mlen S n i (k + 1) ≤ n := ml_b (S := S) (n := n) (i := i) (d := k + 1) 9 0 (by omega)
      refine ⟨Or.inl ?_, ?_, ?_⟩
      · unfold cN
        split
        · exact ⟨Nat.le_refl _, by show (-1 : Int) ≤ (mlen S n i (k + 1) : Int); omega, by show (mlen S n i (k + 1) : Int) ≤ 9; omega⟩
        · rcases h1 with h1 | h1
          · exact ⟨by omega, h1.2⟩
          · omega
      · unfold cN
        split
        · exact Or.inr ⟨by show 1 ≤ k + 1; omega, rfl⟩
        · exact h2
      · unfold rN cN
        rw [h3]
        by_cases c : (cN S n i k).2 < (mlen S n i (k + 1) : Int)
        · rw [if_pos c]
          by_cases c2 : 2 ≤ (cN S n i k).2
          · rw [if_pos c2, if_pos (by show _ < _; omega), if_pos (by show (2 : Int) ≤ _; omega)]
            rfl
          · rw [if_neg c2]
            by_cases c3 : 2 ≤ (mlen S n i (k + 1) : Int)
            · rw [if_pos (by show 1 < _; omega), if_pos c3]
              rfl
            · rw [if_neg (by show ¬ 1 < _; omega), if_neg c3]
        · rw [if_neg c]
          by_cases c2 : 2 ≤ (cN S n i k).2
          · rw [if_pos c2, if_neg (by show ¬ _ < _; omega)]
          · rw [if_neg c2, if_neg (by show ¬ 1 < _; omega)]
def far (S : Nat → Int) (n i : Nat) : Nat := (rN S n i (min 16 i)).1
def fln (S : Nat → Int) (n i : Nat) : Nat := (rN S n i (min 16 i)).2
theorem far_b {S : Nat → Int} {n i : Nat} (hi : i < n) : far S n i ≤ 16 ∧ far S n i ≤ i ∧ fln S n i ≤ 9 ∧ 1 ≤ fln S n i ∧ i + fln S n i ≤ n ∧ (0 < far S n i → 2 ≤ fln S n i) ∧ (far S n i = 0 → fln S n i = 1) := by
  obtain ⟨h1, h2, h3⟩ := cN_ok (S := S) (n := n) (i := i) (min 16 i)
  have h1 := h1.resolve_right (by omega)
  unfold far fln
  rw [h3]
  split
  · rename_i hc
    try dsimp only
    rcases h2 with h2 | h2
    · omega
    · have : mlen S n i (cN S n i (min 16 i)).1 ≤ 0 + 9 ∧ i + mlen S n i (cN S n i (min 16 i)).1 ≤ n := ml_b (S := S) (n := n) (i := i) (d := (cN S n i (min 16 i)).1) 9 0 (by omega)
      omega
  · try dsimp only
    omega
def me (S : Nat → Int) (n : Nat) : Nat → Nat → List Int → List Int
  | 0, _, l => l
  | c + 1, i, l => if i < n then (if 0 < far S n i then me S n c (i + fln S n i) (l ++ [1] ++ vb ((far S n i : Int) - 1) 4 ++ vb ((fln S n i : Int) - 2) 3) else me S n c (i + 1) (l ++ [0] ++ vb (S i) 8)) else l
set_option maxRecDepth 100000 in
theorem c_stE {b : Bool} {M : iM} {S : Nat → Int} {n : Nat} (hS : ∀ j, j < n → M 7 j = S j ∧ 0 ≤ S j ∧ S j < 256) (hn : n ≤ 96) (h : BW M []) : ∃ M', irun none zp_83 0 (i_ent [iP 13, iP 7, iI (n : Int), iP 28] 5) [] (SH b) M 0 0 (some 1, SH b, M') ∧ Fr [28, 29] M M' ∧ BW M' (eS S n) := by
  have loop : ∀ (c i : Nat) (M : iM), i + c = n → (∀ j, j < n → M 7 j = S j ∧ 0 ≤ S j ∧ S j < 256) → BW M (eS S i) → ∃ M', irun none zp_83 3 [some (iP 13), some (iP 7), some (iI (n : Int)), some (iP 28), some (iI (i : Int))] [] (SH b) M 0 0 (some 1, SH b, M') ∧ Fr [28, 29] M M' ∧ BW M' (eS S n) := by
    intro c
    induction c with
    | zero =>
      intro i M hi hS h
      obtain rfl : i = n := by omega
      refine ⟨M, ?_, Fr_r _ _, h⟩
      refine i_iload rfl rfl ?_
      refine i_iload_n rfl rfl ?_
      refine i_icmp_ge_t rfl (by first | omega | assumption) ?_
      refine i_iconst (n := 1) rfl (by unfold iR; omega) ?_
      -- at 26
      exact i_zreturn rfl rfl (by first | omega | assumption)
    | succ c ih =>
      intro i M hi hS h
      obtain ⟨s1, s2⟩ := hS i (by omega)
      obtain ⟨M1, k1, k2, k3⟩ := c_put (b := b) (v := S i) (n := 8) h (by rw [eS_len]; omega) (by decide) s2.1
      obtain ⟨M', g1, g2, g3⟩ := ih (i + 1) M1 (by omega) (by rw [k2 7 (by decide)]; exact hS) k3
      refine ⟨M', ?_, Fr_t k2 g2 (by decide), g3⟩
      refine i_iload rfl rfl ?_
      refine i_iload_n rfl rfl ?_
      refine i_icmp_ge_f rfl (by first | omega | assumption) ?_
      refine i_aload_n rfl rfl ?_
      refine i_aload_n rfl rfl ?_
      refine i_iload rfl rfl ?_
      refine i_iald rfl rfl (by first | omega | assumption) (by first | omega | assumption) (by decide) ?_
      -- at 14
      rw [show (i : Int).toNat = i by omega, s1]
      refine i_bipush (n := 8) rfl (by unfold iR; omega) (by decide) ?_
      -- at 16
      refine i_call (T := (79, zp_79)) rfl rfl (k1) rfl rfl rfl rfl rfl rfl rfl ?_
      try dsimp only
      refine i_iinc rfl rfl (by unfold iR; omega) (Nat.le_of_ble_eq_true rfl) rfl ?_
      refine i_goto rfl ?_
      -- at 3
      exact g1
  obtain ⟨M', g1, g2⟩ := loop n 0 M (by omega) hS h
  refine ⟨M', ?_, g2⟩
  refine i_iconst (n := 0) rfl (by unfold iR; omega) ?_
  refine i_istore rfl (Nat.le_of_ble_eq_true rfl) rfl ?_
  -- at 3
  exact g1
set_option maxRecDepth 100000 in
theorem c_ml {b : Bool} {M : iM} {S : Nat → Int} {t sz n i d : Nat} (ht : z_at (SH b) t = some (1, sz, [])) (ht1 : ¬ t = 1000000) (hsz : n ≤ sz) (h96 : n ≤ 96) (hS : ∀ j, j < n → M t j = S j) (hd : 1 ≤ d) (hdi : d ≤ i) (hi : i < n) : irun none zp_88 0 (i_ent [iP t, iI (n : Int), iI (i : Int), iI (d : Int)] 5) [] (SH b) M 0 0 (some (mlen S n i d : Int), SH b, M) := by
  have loop : ∀ (c len : Nat), len + c = 9 → irun none zp_88 3 [some (iP t), some (iI (n : Int)), some (iI (i : Int)), some (iI (d : Int)), some (iI (len : Int))] [] (SH b) M 0 0 (some (ml S n i d c len : Int), SH b, M) := by
    intro c
    induction c with
    | zero =>
      intro len hl
      obtain rfl : len = 9 := by omega
      refine i_iload rfl rfl ?_
      refine i_bipush (n := 9) rfl (by unfold iR; omega) (by decide) ?_
      refine i_icmp_ge_t rfl (by first | omega | assumption) ?_
      refine i_iload rfl rfl ?_
      -- at 43
      exact i_ireturn rfl rfl
    | succ c ih =>
      intro len hl
      have hnx := ih (len + 1) (by omega)
      unfold ml
      by_cases c1 : i + len < n
      · have e1 := hS (i + len) c1
        have e2 := hS (i + len - d) (by omega)
        by_cases c2 : S (i + len) = S (i + len - d)
        · rw [if_pos ⟨c1, c2⟩]
          refine i_iload rfl rfl ?_
          refine i_bipush (n := 9) rfl (by unfold iR; omega) (by first | decide | assumption) ?_
          refine i_icmp_ge_f rfl (by first | omega | assumption) ?_
          refine i_iload_n rfl rfl ?_
          refine i_iload rfl rfl ?_
          refine i_iadd rfl (by unfold iR; omega) ?_
          refine i_iload_n rfl rfl ?_
          refine i_icmp_ge_f rfl (by first | omega | assumption) ?_
          refine i_aload_n rfl rfl ?_
          refine i_iload_n rfl rfl ?_
          refine i_iload rfl rfl ?_
          refine i_iadd rfl (by unfold iR; omega) ?_
          refine i_iald rfl (by assumption) (by first | omega | assumption) (by first | omega | assumption) (by first | decide | assumption) ?_
          -- at 24
          rw [show ((i : Int) + (len : Int)).toNat = i + len by omega, e1]
          refine i_aload_n rfl rfl ?_
          refine i_iload_n rfl rfl ?_
          refine i_iload rfl rfl ?_
          refine i_iadd rfl (by unfold iR; omega) ?_
          refine i_iload_n rfl rfl ?_
          refine i_isub rfl (by unfold iR; omega) ?_
          refine i_iald rfl (by assumption) (by first | omega | assumption) (by first | omega | assumption) (by first | decide | assumption) ?_
          -- at 32
          rw [show ((i : Int) + (len : Int) - (d : Int)).toNat = i + len - d by omega, e2]
          refine i_icmp_ne_f rfl (by first | omega | assumption) ?_
          refine i_iinc rfl rfl (by unfold iR; omega) (Nat.le_of_ble_eq_true rfl) rfl ?_
          refine i_goto rfl ?_
          -- at 3
          exact hnx
        · rw [if_neg (fun q => c2 q.2)]
          refine i_iload rfl rfl ?_
          refine i_bipush (n := 9) rfl (by unfold iR; omega) (by first | decide | assumption) ?_
          refine i_icmp_ge_f rfl (by first | omega | assumption) ?_
          refine i_iload_n rfl rfl ?_
          refine i_iload rfl rfl ?_
          refine i_iadd rfl (by unfold iR; omega) ?_
          refine i_iload_n rfl rfl ?_
          refine i_icmp_ge_f rfl (by first | omega | assumption) ?_
          refine i_aload_n rfl rfl ?_
          refine i_iload_n rfl rfl ?_
          refine i_iload rfl rfl ?_
          refine i_iadd rfl (by unfold iR; omega) ?_
          refine i_iald rfl (by assumption) (by first | omega | assumption) (by first | omega | assumption) (by first | decide | assumption) ?_
          -- at 24
          rw [show ((i : Int) + (len : Int)).toNat = i + len by omega, e1]
          refine i_aload_n rfl rfl ?_
          refine i_iload_n rfl rfl ?_
          refine i_iload rfl rfl ?_
          refine i_iadd rfl (by unfold iR; omega) ?_
          refine i_iload_n rfl rfl ?_
          refine i_isub rfl (by unfold iR; omega) ?_
          refine i_iald rfl (by assumption) (by first | omega | assumption) (by first | omega | assumption) (by first | decide | assumption) ?_
          -- at 32
          rw [show ((i : Int) + (len : Int) - (d : Int)).toNat = i + len - d by omega, e2]
          refine i_icmp_ne_t rfl (by first | omega | assumption) ?_
          refine i_iload rfl rfl ?_
          -- at 43
          exact i_ireturn rfl rfl
      · rw [if_neg (fun q => c1 q.1)]
        refine i_iload rfl rfl ?_
        refine i_bipush (n := 9) rfl (by unfold iR; omega) (by decide) ?_
        refine i_icmp_ge_f rfl (by first | omega | assumption) ?_
        refine i_iload_n rfl rfl ?_
        refine i_iload rfl rfl ?_
        refine i_iadd rfl (by unfold iR; omega) ?_
        refine i_iload_n rfl rfl ?_
        refine i_icmp_ge_t rfl (by first | omega | assumption) ?_
        refine i_iload rfl rfl ?_
        -- at 43
        exact i_ireturn rfl rfl
  refine i_iconst (n := 0) rfl (by unfold iR; omega) ?_
  refine i_istore rfl (Nat.le_of_ble_eq_true rfl) rfl ?_
  -- at 3
  exact loop 9 0 rfl
set_option maxRecDepth 100000 in
theorem c_best {b : Bool} {M : iM} {S : Nat → Int} {t sz n i : Nat} (ht : z_at (SH b) t = some (1, sz, [])) (ht1 : ¬ t = 1000000) (hsz : n ≤ sz) (h96 : n ≤ 96) (hS : ∀ j, j < n → M t j = S j) (hi : i < n) : irun none zp_87 0 (i_ent [iP t, iI (n : Int), iI (i : Int)] 7) [] (SH b) M 0 0 (some ((cN S n i (min 16 i)).1 : Int), SH b, M) := by
  have loop : ∀ (c k : Nat) (l6 : Option iV), k + c = min 16 i → irun none zp_87 8 [some (iP t), some (iI (n : Int)), some (iI (i : Int)), some (iI ((cN S n i k).1 : Int)), some (iI (cN S n i k).2), some (iI ((k + 1 : Nat) : Int)), l6] [] (SH b) M 0 0 (some ((cN S n i (min 16 i)).1 : Int), SH b, M) := by
    intro c
    induction c with
    | zero =>
      intro k l6 hk
      obtain rfl : k = min 16 i := by omega
      by_cases c1 : 16 ≤ i
      · rw [show min 16 i = 16 by omega]
        refine i_iload rfl rfl ?_
        refine i_bipush (n := 16) rfl (by unfold iR; omega) (by decide) ?_
        refine i_icmp_gt_t rfl (by first | omega | assumption) ?_
        refine i_iload_n rfl rfl ?_
        -- at 52
        exact i_ireturn rfl rfl
      · rw [show min 16 i = i by omega]
        refine i_iload rfl rfl ?_
        refine i_bipush (n := 16) rfl (by unfold iR; omega) (by decide) ?_
        refine i_icmp_gt_f rfl (by first | omega | assumption) ?_
        refine i_iload rfl rfl ?_
        refine i_iload_n rfl rfl ?_
        refine i_icmp_gt_t rfl (by first | omega | assumption) ?_
        refine i_iload_n rfl rfl ?_
        -- at 52
        exact i_ireturn rfl rfl
    | succ c ih =>
      intro k l6 hk
      have hm := c_ml (b := b) (d := k + 1) ht ht1 hsz h96 hS (by omega) (by omega) hi
      have hnx := ih (k + 1) (some (iI (mlen S n i (k + 1) : Int))) (by omega)
      rw [show cN S n i (k + 1) = if (cN S n i k).2 < (mlen S n i (k + 1) : Int) then (k + 1, (mlen S n i (k + 1) : Int)) else cN S n i k from rfl] at hnx
      by_cases c1 : (cN S n i k).2 < (mlen S n i (k + 1) : Int)
      · rw [if_pos c1] at hnx
        refine i_iload rfl rfl ?_
        refine i_bipush (n := 16) rfl (by unfold iR; omega) (by decide) ?_
        refine i_icmp_gt_f rfl (by first | omega | assumption) ?_
        refine i_iload rfl rfl ?_
        refine i_iload_n rfl rfl ?_
        refine i_icmp_gt_f rfl (by first | omega | assumption) ?_
        refine i_aload_n rfl rfl ?_
        refine i_iload_n rfl rfl ?_
        refine i_iload_n rfl rfl ?_
        refine i_iload rfl rfl ?_
        -- at 26
        refine i_call (T := (88, zp_88)) rfl rfl (hm) rfl rfl rfl rfl rfl rfl rfl ?_
        try dsimp only
        show irun none zp_87 29 _ (iI ((mlen S n i (k + 1) : Int)) :: _) _ _ 0 0 _
        refine i_istore rfl (Nat.le_of_ble_eq_true rfl) rfl ?_
        refine i_iload rfl rfl ?_
        refine i_iload rfl rfl ?_
        refine i_icmp_le_f rfl (by first | omega | assumption) ?_
        refine i_iload rfl rfl ?_
        refine i_istore rfl (Nat.le_of_ble_eq_true rfl) rfl ?_
        refine i_iload rfl rfl ?_
        refine i_istore_n rfl (Nat.le_of_ble_eq_true rfl) rfl ?_
        refine i_iinc rfl rfl (by unfold iR; omega) (Nat.le_of_ble_eq_true rfl) rfl ?_
        refine i_goto rfl ?_
        -- at 8
        exact hnx
      · rw [if_neg c1] at hnx
        refine i_iload rfl rfl ?_
        refine i_bipush (n := 16) rfl (by unfold iR; omega) (by decide) ?_
        refine i_icmp_gt_f rfl (by first | omega | assumption) ?_
        refine i_iload rfl rfl ?_
        refine i_iload_n rfl rfl ?_
        refine i_icmp_gt_f rfl (by first | omega | assumption) ?_
        refine i_aload_n rfl rfl ?_
        refine i_iload_n rfl rfl ?_
        refine i_iload_n rfl rfl ?_
        refine i_iload rfl rfl ?_
        -- at 26
        refine i_call (T := (88, zp_88)) rfl rfl (hm) rfl rfl rfl rfl rfl rfl rfl ?_
        try dsimp only
        show irun none zp_87 29 _ (iI ((mlen S n i (k + 1) : Int)) :: _) _ _ 0 0 _
        refine i_istore rfl (Nat.le_of_ble_eq_true rfl) rfl ?_
        refine i_iload rfl rfl ?_
        refine i_iload rfl rfl ?_
        refine i_icmp_le_t rfl (by first | omega | assumption) ?_
        refine i_iinc rfl rfl (by unfold iR; omega) (Nat.le_of_ble_eq_true rfl) rfl ?_
        refine i_goto rfl ?_
        -- at 8
        exact hnx
  refine i_iconst (n := 0) rfl (by unfold iR; omega) ?_
  refine i_istore_n rfl (Nat.le_of_ble_eq_true rfl) rfl ?_
  refine i_iconst (n := -1) rfl (by unfold iR; omega) ?_
  refine i_istore rfl (Nat.le_of_ble_eq_true rfl) rfl ?_
  refine i_iconst (n := 1) rfl (by unfold iR; omega) ?_
  refine i_istore rfl (Nat.le_of_ble_eq_true rfl) rfl ?_
  -- at 8
  exact loop (min 16 i) 0 none (by omega)
set_option maxRecDepth 100000 in
theorem c_mtE {b : Bool} {M : iM} {S : Nat → Int} {p t sz n : Nat} (ht : z_at (SH b) t = some (1, sz, [])) (ht1 : ¬ t = 1000000) (ht2 : t ≠ 28) (ht3 : t ≠ 29) (hsz : n ≤ sz) (h96 : n ≤ 96) (hS : ∀ j, j < n → M t j = S j ∧ 0 ≤ S j ∧ S j < 256) (h : BW M []) : ∃ M', irun none zp_86 0 (i_ent [iP p, iP t, iI (n : Int), iP 28] 7) [] (SH b) M 0 0 (some 1, SH b, M') ∧ Fr [28, 29] M M' ∧ BW M' (me S n n 0 []) := by
  have loop : ∀ (c i : Nat) (M : iM) (l : List Int) (l5 l6 : Option iV), i_free [some (iP p), some (iP t), some (iI (n : Int)), some (iP 28), some (iI (i : Int)), l5, l6] 6 = true → n ≤ i + c → i ≤ n → (∀ j, j < n → M t j = S j ∧ 0 ≤ S j ∧ S j < 256) → BW M l → l.length ≤ 9 * i → ∃ M', irun none zp_86 3 [some (iP p), some (iP t), some (iI (n : Int)), some (iP 28), some (iI (i : Int)), l5, l6] [] (SH b) M 0 0 (some 1, SH b, M') ∧ Fr [28, 29] M M' ∧ BW M' (me S n c i l) := by
    intro c
    induction c with
    | zero =>
      intro i M l l5 l6 z6 hi hi2 hS h hl
      refine ⟨M, ?_, Fr_r _ _, h⟩
      refine i_iload rfl rfl ?_
      refine i_iload_n rfl rfl ?_
      refine i_icmp_ge_t rfl (by first | omega | assumption) ?_
      refine i_iconst (n := 1) rfl (by unfold iR; omega) ?_
      -- at 101
      exact i_zreturn rfl rfl (by first | omega | assumption)
    | succ c ih =>
      intro i M l l5 l6 z6 hi hi2 hS h hl
      by_cases hn : i < n
      · have hS1 : ∀ j, j < n → M t j = S j := fun j hj => (hS j hj).1
        have hb := c_best (b := b) ht ht1 hsz h96 hS1 hn
        obtain ⟨o1, o2, o3⟩ := cN_ok (S := S) (n := n) (i := i) (min 16 i)
        have o1 := o1.resolve_right (by omega)
        have fb := far_b (S := S) hn
        have ef : far S n i = (if 2 ≤ (cN S n i (min 16 i)).2 then (cN S n i (min 16 i)).1 else 0) := by
          unfold far
          rw [o3]
          split <;> rfl
        have el : fln S n i = (if 2 ≤ (cN S n i (min 16 i)).2 then (cN S n i (min 16 i)).2.toNat else 1) := by
          unfold fln
          rw [o3]
          split <;> rfl
        unfold me
        rw [if_pos hn]
        by_cases c2 : 2 ≤ (cN S n i (min 16 i)).2
        · rw [if_pos c2] at ef el
          have o2 := o2.resolve_left (by omega)
          rw [if_pos (by omega)]
          have hml := c_ml (b := b) (d := far S n i) ht ht1 hsz h96 hS1 (by omega) (by omega) hn
          rw [show (mlen S n i (far S n i) : Int) = (fln S n i : Int) by rw [ef, ← o2.2]; omega] at hml
          rw [← ef] at hb
          obtain ⟨M1, a1, a2, a3⟩ := c_put (b := b) (v := 1) (n := 1) h (by omega) (by decide) (by decide)
          rw [show vb 1 1 = [1] from rfl] at a3
          obtain ⟨M2, b1, b2, b3⟩ := c_put (b := b) (v := (far S n i : Int) - 1) (n := 4) a3 (by simp; omega) (by decide) (by omega)
          obtain ⟨M3, d1, d2, d3⟩ := c_put (b := b) (v := (fln S n i : Int) - 2) (n := 3) b3 (by simp [vb_len]; omega) (by decide) (by omega)
          have f3 : Fr [28, 29] M M3 := Fr_t (Fr_t a2 b2 (by decide)) d2 (by decide)
          obtain ⟨M', g1, g2, g3⟩ := ih (i + fln S n i) M3 (l ++ [1] ++ vb ((far S n i : Int) - 1) 4 ++ vb ((fln S n i : Int) - 2) 3) (some (iI (far S n i : Int))) (some (iI (fln S n i : Int))) rfl (by omega) (by omega) (by rw [f3 t (by simp; omega)]; exact hS) d3 (by simp [vb_len]; omega)
          refine ⟨M', ?_, Fr_t f3 g2 (by decide), g3⟩
          refine i_iload rfl rfl ?_
          refine i_iload_n rfl rfl ?_
          refine i_icmp_ge_f rfl (by first | omega | assumption) ?_
          refine i_aload_n rfl rfl ?_
          refine i_iload_n rfl rfl ?_
          refine i_iload rfl rfl ?_
          -- at 13
          refine i_call (T := (87, zp_87)) rfl rfl (hb) rfl rfl rfl rfl rfl rfl rfl ?_
          try dsimp only
          show irun none zp_86 16 _ (iI ((far S n i : Int)) :: _) _ _ 0 0 _
          refine i_istore rfl (Nat.le_of_ble_eq_true rfl) rfl ?_
          refine i_iload rfl rfl ?_
          refine i_if_ne_t rfl (by first | omega | assumption) ?_
          refine i_aload_n rfl rfl ?_
          refine i_iload_n rfl rfl ?_
          refine i_iload rfl rfl ?_
          refine i_iload rfl rfl ?_
          -- at 33
          refine i_call (T := (88, zp_88)) rfl rfl (hml) rfl rfl rfl rfl rfl rfl rfl ?_
          try dsimp only
          show irun none zp_86 36 _ (iI ((fln S n i : Int)) :: _) _ _ 0 0 _
          refine i_istore rfl (Nat.le_of_ble_eq_true rfl) rfl ?_
          refine i_iload rfl rfl ?_
          refine i_iconst (n := 2) rfl (by unfold iR; omega) ?_
          refine i_icmp_lt_f rfl (by first | omega | assumption) ?_
          refine i_aload_n rfl rfl ?_
          refine i_iconst (n := 1) rfl (by unfold iR; omega) ?_
          refine i_iconst (n := 1) rfl (by unfold iR; omega) ?_
          -- at 47
          refine i_call (T := (79, zp_79)) rfl rfl (a1) rfl rfl rfl rfl rfl rfl rfl ?_
          try dsimp only
          refine i_aload_n rfl rfl ?_
          refine i_iload rfl rfl ?_
          refine i_iconst (n := 1) rfl (by unfold iR; omega) ?_
          refine i_isub rfl (by unfold iR; omega) ?_
          refine i_iconst (n := 4) rfl (by unfold iR; omega) ?_
          -- at 56
          refine i_call (T := (79, zp_79)) rfl rfl (b1) rfl rfl rfl rfl rfl rfl rfl ?_
          try dsimp only
          refine i_aload_n rfl rfl ?_
          refine i_iload rfl rfl ?_
          refine i_iconst (n := 2) rfl (by unfold iR; omega) ?_
          refine i_isub rfl (by unfold iR; omega) ?_
          refine i_iconst (n := 3) rfl (by unfold iR; omega) ?_
          -- at 65
          refine i_call (T := (79, zp_79)) rfl rfl (d1) rfl rfl rfl rfl rfl rfl rfl ?_
          try dsimp only
          refine i_iload rfl rfl ?_
          refine i_iload rfl rfl ?_
          refine i_iadd rfl (by unfold iR; omega) ?_
          refine i_istore rfl (Nat.le_of_ble_eq_true rfl) rfl ?_
          refine i_goto rfl ?_
          refine i_goto rfl ?_
          -- at 3
          exact g1
        · rw [if_neg c2] at ef el
          rw [if_neg (by omega)]
          obtain ⟨s1, s2⟩ := hS i hn
          obtain ⟨M1, a1, a2, a3⟩ := c_put (b := b) (v := 0) (n := 1) h (by omega) (by decide) (by decide)
          rw [show vb 0 1 = [0] from rfl] at a3
          obtain ⟨M2, b1, b2, b3⟩ := c_put (b := b) (v := S i) (n := 8) a3 (by simp; omega) (by decide) s2.1
          have f2 : Fr [28, 29] M M2 := Fr_t a2 b2 (by decide)
          have hfin : ∀ (x y : Int), y < 2 → 0 ≤ y → (∃ M', irun none zp_86 3 [some (iP p), some (iP t), some (iI (n : Int)), some (iP 28), some (iI ((i + 1 : Nat) : Int)), some (iI x), some (iI y)] [] (SH b) M2 0 0 (some 1, SH b, M') ∧ Fr [28, 29] M2 M' ∧ BW M' (me S n c (i + 1) (l ++ [0] ++ vb (S i) 8))) := fun x y _ _ => ih (i + 1) M2 _ (some (iI x)) (some (iI y)) rfl (by omega) (by omega) (by rw [f2 t (by simp; omega)]; exact hS) b3 (by simp [vb_len]; omega)
          rcases o2 with o2 | o2
          · obtain ⟨M', g1, g2, g3⟩ := hfin 0 0 (by decide) (by decide)
            rw [o2.1] at hb
            refine ⟨M', ?_, Fr_t f2 g2 (by decide), g3⟩
            refine i_iload rfl rfl ?_
            refine i_iload_n rfl rfl ?_
            refine i_icmp_ge_f rfl (by first | omega | assumption) ?_
            refine i_aload_n rfl rfl ?_
            refine i_iload_n rfl rfl ?_
            refine i_iload rfl rfl ?_
            -- at 13
            refine i_call (T := (87, zp_87)) rfl rfl (hb) rfl rfl rfl rfl rfl rfl rfl ?_
            try dsimp only
            show irun none zp_86 16 _ (iI (0) :: _) _ _ 0 0 _
            refine i_istore rfl (Nat.le_of_ble_eq_true rfl) rfl ?_
            refine i_iload rfl rfl ?_
            refine i_if_ne_f rfl (by first | omega | assumption) ?_
            refine i_iconst (n := 0) rfl (by unfold iR; omega) ?_
            refine i_goto rfl ?_
            refine i_istore rfl (Nat.le_of_ble_eq_true rfl) rfl ?_
            refine i_iload rfl rfl ?_
            refine i_iconst (n := 2) rfl (by unfold iR; omega) ?_
            refine i_icmp_lt_t rfl (by first | omega | assumption) ?_
            refine i_aload_n rfl rfl ?_
            refine i_iconst (n := 0) rfl (by unfold iR; omega) ?_
            refine i_iconst (n := 1) rfl (by unfold iR; omega) ?_
            -- at 81
            refine i_call (T := (79, zp_79)) rfl rfl (a1) rfl rfl rfl rfl rfl rfl rfl ?_
            try dsimp only
            refine i_aload_n rfl rfl ?_
            refine i_aload_n rfl rfl ?_
            refine i_iload rfl rfl ?_
            refine i_iald rfl (by assumption) (by first | omega | assumption) (by first | omega | assumption) (by first | decide | assumption) ?_
            -- at 89
            rw [show (i : Int).toNat = i by omega, a2 t (by simp; omega), s1]
            refine i_bipush (n := 8) rfl (by unfold iR; omega) (by decide) ?_
            -- at 91
            refine i_call (T := (79, zp_79)) rfl rfl (b1) rfl rfl rfl rfl rfl rfl rfl ?_
            try dsimp only
            refine i_iinc rfl rfl (by unfold iR; omega) (Nat.le_of_ble_eq_true rfl) rfl ?_
            refine i_goto rfl ?_
            -- at 3
            exact g1
          · obtain ⟨M', g1, g2, g3⟩ := hfin ((cN S n i (min 16 i)).1 : Int) (cN S n i (min 16 i)).2 (by omega) (by omega)
            have hml := c_ml (b := b) (d := (cN S n i (min 16 i)).1) ht ht1 hsz h96 hS1 (by omega) (by omega) hn
            rw [← o2.2] at hml
            refine ⟨M', ?_, Fr_t f2 g2 (by decide), g3⟩
            refine i_iload rfl rfl ?_
            refine i_iload_n rfl rfl ?_
            refine i_icmp_ge_f rfl (by first | omega | assumption) ?_
            refine i_aload_n rfl rfl ?_
            refine i_iload_n rfl rfl ?_
            refine i_iload rfl rfl ?_
            -- at 13
            refine i_call (T := (87, zp_87)) rfl rfl (hb) rfl rfl rfl rfl rfl rfl rfl ?_
            try dsimp only
            show irun none zp_86 16 _ (iI (((cN S n i (min 16 i)).1 : Int)) :: _) _ _ 0 0 _
            refine i_istore rfl (Nat.le_of_ble_eq_true rfl) rfl ?_
            refine i_iload rfl rfl ?_
            refine i_if_ne_t rfl (by first | omega | assumption) ?_
            refine i_aload_n rfl rfl ?_
            refine i_iload_n rfl rfl ?_
            refine i_iload rfl rfl ?_
            refine i_iload rfl rfl ?_
            -- at 33
            refine i_call (T := (88, zp_88)) rfl rfl (hml) rfl rfl rfl rfl rfl rfl rfl ?_
            try dsimp only
            show irun none zp_86 36 _ (iI ((cN S n i (min 16 i)).2) :: _) _ _ 0 0 _
            refine i_istore rfl (Nat.le_of_ble_eq_true rfl) rfl ?_
            refine i_iload rfl rfl ?_
            refine i_iconst (n := 2) rfl (by unfold iR; omega) ?_
            refine i_icmp_lt_t rfl (by first | omega | assumption) ?_
            refine i_aload_n rfl rfl ?_
            refine i_iconst (n := 0) rfl (by unfold iR; omega) ?_
            refine i_iconst (n := 1) rfl (by unfold iR; omega) ?_
            -- at 81
            refine i_call (T := (79, zp_79)) rfl rfl (a1) rfl rfl rfl rfl rfl rfl rfl ?_
            try dsimp only
            refine i_aload_n rfl rfl ?_
            refine i_aload_n rfl rfl ?_
            refine i_iload rfl rfl ?_
            refine i_iald rfl (by assumption) (by first | omega | assumption) (by first | omega | assumption) (by first | decide | assumption) ?_
            -- at 89
            rw [show (i : Int).toNat = i by omega, a2 t (by simp; omega), s1]
            refine i_bipush (n := 8) rfl (by unfold iR; omega) (by decide) ?_
            -- at 91
            refine i_call (T := (79, zp_79)) rfl rfl (b1) rfl rfl rfl rfl rfl rfl rfl ?_
            try dsimp only
            refine i_iinc rfl rfl (by unfold iR; omega) (Nat.le_of_ble_eq_true rfl) rfl ?_
            refine i_goto rfl ?_
            -- at 3
            exact g1
      · unfold me
        rw [if_neg hn]
        refine ⟨M, ?_, Fr_r _ _, h⟩
        refine i_iload rfl rfl ?_
        refine i_iload_n rfl rfl ?_
        refine i_icmp_ge_t rfl (by first | omega | assumption) ?_
        refine i_iconst (n := 1) rfl (by unfold iR; omega) ?_
        -- at 101
        exact i_zreturn rfl rfl (by first | omega | assumption)
  obtain ⟨M', g1, g2⟩ := loop n 0 M [] none none rfl (by omega) (by omega) hS h (by simp)
  refine ⟨M', ?_, g2⟩
  refine i_iconst (n := 0) rfl (by unfold iR; omega) ?_
  refine i_istore rfl (Nat.le_of_ble_eq_true rfl) rfl ?_
  -- at 3
  exact g1
def ds (S : Nat → Int) (i : Nat) : Int := if i = 0 then S 0 else (S i - S (i - 1)) % 256
set_option maxRecDepth 100000 in
theorem c_dfE {b : Bool} {M : iM} {S : Nat → Int} {n : Nat} (hS : ∀ j, j < n → M 7 j = S j ∧ 0 ≤ S j ∧ S j < 256) (hn : n ≤ 96) (h : BW M []) : ∃ M', irun none zp_93 0 (i_ent [iP 15, iP 7, iI (n : Int), iP 28] 5) [] (SH b) M 0 0 (some 1, SH b, M') ∧ Fr [17, 28, 29] M M' ∧ BW M' (me (ds S) n n 0 []) := by
  have loop : ∀ (q : Option Int × List zS × iM), irun none zp_93 48 [some (iP 15), some (iP 7), some (iI (n : Int)), some (iP 28), some (iI (n : Int))] [] (SH b) (va_up M 17 (fun j => if j < n then ds S j else M 17 j)) 0 0 q → ∀ (c i : Nat), i + c = n → irun none zp_93 3 [some (iP 15), some (iP 7), some (iI (n : Int)), some (iP 28), some (iI (i : Int))] [] (SH b) (va_up M 17 (fun j => if j < i then ds S j else M 17 j)) 0 0 q := by
    intro q hq c
    induction c with
    | zero =>
      intro i hi
      obtain rfl : i = n := by omega
      refine i_iload rfl rfl ?_
      refine i_iload_n rfl rfl ?_
      refine i_icmp_ge_t rfl (by first | omega | assumption) ?_
      -- at 48
      exact hq
    | succ c ih =>
      intro i hi
      have hnx := ih (i + 1) (by omega)
      have s1 := hS i (by omega)
      by_cases i0 : i = 0
      · subst i0
        refine i_iload rfl rfl ?_
        refine i_iload_n rfl rfl ?_
        refine i_icmp_ge_f rfl (by first | omega | assumption) ?_
        refine i_aload_n rfl rfl ?_
        refine i_getr rfl rfl rfl rfl (by decide) rfl ?_
        refine i_iload rfl rfl ?_
        refine i_iload rfl rfl ?_
        refine i_if_ne_f rfl (by first | omega | assumption) ?_
        refine i_aload_n rfl rfl ?_
        refine i_iconst (n := 0) rfl (by unfold iR; omega) ?_
        refine i_iald rfl rfl (by first | omega | assumption) (by first | omega | assumption) (by decide) ?_
        -- at 23
        show irun none zp_93 23 _ (iI (M 7 0) :: _) _ _ 0 0 _
        rw [s1.1]
        refine i_goto rfl ?_
        refine i_iast rfl rfl (by first | omega | assumption) (by first | omega | assumption) ?_
        refine i_iinc rfl rfl (by unfold iR; omega) (Nat.le_of_ble_eq_true rfl) rfl ?_
        refine i_goto rfl ?_
        -- at 3
        rw [st_up (g := fun j => if j < 0 + 1 then ds S j else M 17 j)]
        · exact hnx
        · exact up_step (f := ds S) rfl
      · have s2 := hS (i - 1) (by omega)
        refine i_iload rfl rfl ?_
        refine i_iload_n rfl rfl ?_
        refine i_icmp_ge_f rfl (by first | omega | assumption) ?_
        refine i_aload_n rfl rfl ?_
        refine i_getr rfl rfl rfl rfl (by decide) rfl ?_
        refine i_iload rfl rfl ?_
        refine i_iload rfl rfl ?_
        refine i_if_ne_t rfl (by first | omega | assumption) ?_
        refine i_aload_n rfl rfl ?_
        refine i_iload rfl rfl ?_
        refine i_iald rfl rfl (by first | omega | assumption) (by first | omega | assumption) (by decide) ?_
        -- at 30
        rw [show (i : Int).toNat = i by omega]
        show irun none zp_93 30 _ (iI (M 7 i) :: _) _ _ 0 0 _
        rw [s1.1]
        refine i_aload_n rfl rfl ?_
        refine i_iload rfl rfl ?_
        refine i_iconst (n := 1) rfl (by unfold iR; omega) ?_
        refine i_isub rfl (by unfold iR; omega) ?_
        refine i_iald rfl rfl (by first | omega | assumption) (by first | omega | assumption) (by decide) ?_
        -- at 36
        rw [show ((i : Int) - 1).toNat = i - 1 by omega]
        show irun none zp_93 36 _ (iI (M 7 (i - 1)) :: _) _ _ 0 0 _
        rw [s2.1]
        refine i_isub rfl (by unfold iR; omega) ?_
        refine i_sipush (n := 255) rfl (by unfold iR; omega) (by decide) ?_
        refine i_iand 8 rfl (by decide) (by decide) ?_
        refine i_iast rfl rfl (by first | omega | assumption) (by first | omega | assumption) ?_
        refine i_iinc rfl rfl (by unfold iR; omega) (Nat.le_of_ble_eq_true rfl) rfl ?_
        refine i_goto rfl ?_
        -- at 3
        rw [st_up (g := fun j => if j < i + 1 then ds S j else M 17 j)]
        · exact hnx
        · rw [show (i : Int).toNat = i by omega]
          refine up_step (f := ds S) ?_
          unfold ds
          rw [if_neg i0]
          rfl
  have hb : ∀ j, j < n → 0 ≤ ds S j ∧ ds S j < 256 := by
    intro j hj
    unfold ds
    split
    · exact (hS 0 (by omega)).2
    · omega
  obtain ⟨M', k1, k2, k3⟩ := c_mtE (b := b) (M := va_up M 17 (fun j => if j < n then ds S j else M 17 j)) (S := ds S) (p := 16) (t := 17) (sz := 256) (n := n) rfl (by decide) (by decide) (by decide) (by omega) hn (fun j hj => ⟨by rw [up_s, if_pos hj], hb j hj⟩) h
  refine ⟨M', ?_, Fr_t (Fr_up (Fr_r _ _) (by decide)) k2 (by decide), k3⟩
  have h0 := loop (some 1, SH b, M') ?_ n 0 (by omega)
  · rw [up_id M 17 (f := fun j => if j < 0 then ds S j else M 17 j) (by funext j; rw [if_neg (by omega)])] at h0
    refine i_iconst (n := 0) rfl (by unfold iR; omega) ?_
    refine i_istore rfl (Nat.le_of_ble_eq_true rfl) rfl ?_
    -- at 3
    exact h0
  · refine i_aload_n rfl rfl ?_
    refine i_getr rfl rfl rfl rfl (by decide) rfl ?_
    refine i_aload_n rfl rfl ?_
    refine i_getr rfl rfl rfl rfl (by decide) rfl ?_
    refine i_iload_n rfl rfl ?_
    refine i_aload_n rfl rfl ?_
    -- at 58
    refine i_call (T := (86, zp_86)) rfl rfl (k1) rfl rfl rfl rfl rfl rfl rfl ?_
    try dsimp only
    show irun none zp_93 61 _ (iI (1) :: _) _ _ 0 0 _
    exact i_zreturn rfl rfl (by first | omega | assumption)
