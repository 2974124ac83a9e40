set_option maxRecDepth 100000 in
theorem d_read {b : Bool} {M : iM} {s : Nat} (hs : s < 48) (hf : by8 (M 41) 720) : ∃ S, irun none zp_115 0 (i_ent [iP 40, iI (s : Int)] 4) [] (SH b) M 0 0 (some (rk (M 41) s), SH b, va_up M 51 S) ∧ (rk (M 41) s = 1 → ∀ k, k < 11 → S k = rd (M 41) s k) := by
  by_cases h : M 41 (s * 12 + 11) = chk (M 41) s
  · have hrk : rk (M 41) s = 1 := by unfold rk; rw [if_pos h]
    refine ⟨fun k => if k < 12 then M 41 (s * 12 + k) else M 51 k, ?_, fun _ k hk => ?_⟩
    · rw [hrk]
      refine i_aload_n rfl rfl ?_
      refine i_iload_n rfl rfl ?_
      -- at 2
      refine i_call (T := (112, zp_112)) rfl rfl (d_isGood (show s < 60 by omega) hf) rfl rfl rfl rfl rfl rfl rfl ?_
      try dsimp only
      show irun none zp_115 5 _ [iI (bi _)] _ _ 0 0 _
      rw [bi_t h]
      refine i_if_eq_f rfl (by first | omega | assumption) ?_
      refine i_iconst (n := 1) rfl (by unfold iR; omega) ?_
      -- at 9
      exact i_zreturn rfl rfl (by first | omega | assumption)
    · unfold rd
      rw [if_pos h]
      try dsimp only
      rw [if_pos (by omega)]
  · have hg : s / 4 < 12 := by omega
    have loop : ∀ (n k : Nat), k + n = 5 → (∀ m, m < k → mb (s / 4) m ≠ s → gd (M 41) (mb (s / 4) m)) → ∀ S' : Nat → Int, ∃ S, irun none zp_115 16 [some (iP 40), some (iI (s : Int)), some (iI ((s / 4 : Nat) : Int)), some (iI (k : Int))] [] (SH b) (va_up M 51 S') 0 0 (some (rk (M 41) s), SH b, va_up M 51 S) ∧ (rk (M 41) s = 1 → ∀ k, k < 11 → S k = rd (M 41) s k) := by
      intro n
      induction n with
      | zero =>
        intro k hk hall S'
        obtain rfl : k = 5 := by omega
        have hrk : rk (M 41) s = 1 := by
          unfold rk
          rw [if_neg h, if_pos ((nb_iff hs h).mpr hall)]
        refine ⟨fun k => if k < 11 then jn (M 41) (s / 4) ((s % 4 : Nat) : Int) k else S' k, ?_, fun _ k hk => ?_⟩
        · rw [hrk]
          refine i_iload_n rfl rfl ?_
          refine i_iconst (n := 5) rfl (by unfold iR; omega) ?_
          refine i_icmp_ge_t rfl (by first | omega | assumption) ?_
          refine i_aload_n rfl rfl ?_
          refine i_iload_n rfl rfl ?_
          refine i_iload_n rfl rfl ?_
          refine i_iconst (n := 4) rfl (by unfold iR; omega) ?_
          refine i_irem rfl (by first | omega | assumption) (by first | omega | assumption) ?_
          -- at 55
          have hj := d_join (b := b) (M := va_up M 51 S') (g := s / 4) (lo := ((s % 4 : Nat) : Int)) hg hf
          rw [up_up] at hj
          refine i_call (T := (114, zp_114)) rfl rfl (hj) rfl rfl rfl rfl rfl rfl rfl ?_
          try dsimp only
          refine i_iconst (n := 1) rfl (by unfold iR; omega) ?_
          -- at 59
          exact i_zreturn rfl rfl (by first | omega | assumption)
        · unfold rd
          rw [if_neg h]
          try dsimp only
          rw [if_pos hk]
      | succ n ih =>
        intro k hk hall S'
        have hb := mb_b hg (show k < 5 by omega)
        by_cases he : mb (s / 4) k = s
        · obtain ⟨S, h1, h2⟩ := ih (k + 1) (by omega) (fun m hm hne => by
            by_cases e : m = k
            · subst e; exact absurd he hne
            · exact hall m (by omega) hne) S'
          refine ⟨S, ?_, h2⟩
          refine i_iload_n rfl rfl ?_
          refine i_iconst (n := 5) rfl (by unfold iR; omega) ?_
          refine i_icmp_ge_f rfl (by first | omega | assumption) ?_
          refine i_iload_n rfl rfl ?_
          refine i_iload_n rfl rfl ?_
          -- at 23
          refine i_call (T := (113, zp_113)) rfl rfl (d_member hg (show k < 5 by omega)) rfl rfl rfl rfl rfl rfl rfl ?_
          try dsimp only
          show irun none zp_115 26 _ [iI ((mb (s / 4) k : Nat) : Int)] _ _ 0 0 _
          refine i_iload_n rfl rfl ?_
          refine i_icmp_eq_t rfl (by first | omega | assumption) ?_
          refine i_iinc rfl rfl (by unfold iR; omega) (Nat.le_of_ble_eq_true rfl) rfl ?_
          refine i_goto rfl ?_
          -- at 16
          exact h1
        · have hgood := d_isGood (b := b) (M := va_up M 51 S') (s := mb (s / 4) k) hb hf
          rw [up_up] at hgood
          by_cases hc : gd (M 41) (mb (s / 4) k)
          · obtain ⟨S, h1, h2⟩ := ih (k + 1) (by omega) (fun m hm hne => by
              by_cases e : m = k
              · subst e; exact hc
              · exact hall m (by omega) hne) (fun j => if j < 12 then M 41 (mb (s / 4) k * 12 + j) else S' j)
            refine ⟨S, ?_, h2⟩
            refine i_iload_n rfl rfl ?_
            refine i_iconst (n := 5) rfl (by unfold iR; omega) ?_
            refine i_icmp_ge_f rfl (by first | omega | assumption) ?_
            refine i_iload_n rfl rfl ?_
            refine i_iload_n rfl rfl ?_
            -- at 23
            refine i_call (T := (113, zp_113)) rfl rfl (d_member hg (show k < 5 by omega)) rfl rfl rfl rfl rfl rfl rfl ?_
            try dsimp only
            show irun none zp_115 26 _ [iI ((mb (s / 4) k : Nat) : Int)] _ _ 0 0 _
            refine i_iload_n rfl rfl ?_
            refine i_icmp_eq_f rfl (by first | omega | assumption) ?_
            refine i_aload_n rfl rfl ?_
            refine i_iload_n rfl rfl ?_
            refine i_iload_n rfl rfl ?_
            -- at 33
            refine i_call (T := (113, zp_113)) rfl rfl (d_member hg (show k < 5 by omega)) rfl rfl rfl rfl rfl rfl rfl ?_
            try dsimp only
            refine i_call (T := (112, zp_112)) rfl rfl (hgood) rfl rfl rfl rfl rfl rfl rfl ?_
            try dsimp only
            show irun none zp_115 39 _ [iI (bi _)] _ _ 0 0 _
            rw [bi_t (show (va_up M 51 S') 41 (mb (s / 4) k * 12 + 11) = chk ((va_up M 51 S') 41) (mb (s / 4) k) from hc)]
            refine i_if_ne_t rfl (by first | omega | assumption) ?_
            refine i_iinc rfl rfl (by unfold iR; omega) (Nat.le_of_ble_eq_true rfl) rfl ?_
            refine i_goto rfl ?_
            -- at 16
            exact h1
          · have hrk : rk (M 41) s = 0 := by
              unfold rk
              rw [if_neg h, if_neg (fun q => hc ((nb_iff hs h).mp q k (by omega) he))]
            refine ⟨fun j => if j < 12 then M 41 (mb (s / 4) k * 12 + j) else S' j, ?_, fun q => by omega⟩
            rw [hrk]
            refine i_iload_n rfl rfl ?_
            refine i_iconst (n := 5) rfl (by unfold iR; omega) ?_
            refine i_icmp_ge_f rfl (by first | omega | assumption) ?_
            refine i_iload_n rfl rfl ?_
            refine i_iload_n rfl rfl ?_
            -- at 23
            refine i_call (T := (113, zp_113)) rfl rfl (d_member hg (show k < 5 by omega)) rfl rfl rfl rfl rfl rfl rfl ?_
            try dsimp only
            show irun none zp_115 26 _ [iI ((mb (s / 4) k : Nat) : Int)] _ _ 0 0 _
            refine i_iload_n rfl rfl ?_
            refine i_icmp_eq_f rfl (by first | omega | assumption) ?_
            refine i_aload_n rfl rfl ?_
            refine i_iload_n rfl rfl ?_
            refine i_iload_n rfl rfl ?_
            -- at 33
            refine i_call (T := (113, zp_113)) rfl rfl (d_member hg (show k < 5 by omega)) rfl rfl rfl rfl rfl rfl rfl ?_
            try dsimp only
            refine i_call (T := (112, zp_112)) rfl rfl (hgood) rfl rfl rfl rfl rfl rfl rfl ?_
            try dsimp only
            show irun none zp_115 39 _ [iI (bi _)] _ _ 0 0 _
            rw [bi_f (show ¬ (va_up M 51 S') 41 (mb (s / 4) k * 12 + 11) = chk ((va_up M 51 S') 41) (mb (s / 4) k) from hc)]
            refine i_if_ne_f rfl (by first | omega | assumption) ?_
            refine i_iconst (n := 0) rfl (by unfold iR; omega) ?_
            -- at 43
            exact i_zreturn rfl rfl (by first | omega | assumption)
    obtain ⟨S, h1, h2⟩ := loop 5 0 rfl (fun m hm => by omega) (fun k => if k < 12 then M 41 (s * 12 + k) else M 51 k)
    refine ⟨S, ?_, h2⟩
    refine i_aload_n rfl rfl ?_
    refine i_iload_n rfl rfl ?_
    -- at 2
    refine i_call (T := (112, zp_112)) rfl rfl (d_isGood (show s < 60 by omega) hf) rfl rfl rfl rfl rfl rfl rfl ?_
    try dsimp only
    show irun none zp_115 5 _ [iI (bi _)] _ _ 0 0 _
    rw [bi_f h]
    refine i_if_eq_t rfl (by first | omega | assumption) ?_
    refine i_iload_n rfl rfl ?_
    refine i_iconst (n := 4) rfl (by unfold iR; omega) ?_
    refine i_idiv rfl (by first | omega | assumption) (by first | omega | assumption) ?_
    refine i_istore_n rfl (Nat.le_of_ble_eq_true rfl) rfl ?_
    refine i_iconst (n := 0) rfl (by unfold iR; omega) ?_
    refine i_istore_n rfl (Nat.le_of_ble_eq_true rfl) rfl ?_
    -- at 16
    exact h1
def lkN (f : Nat → Int) (first : Nat) : Nat → Int
  | 0 => 1
  | n + 1 => if lkN f first n = 1 ∧ rk f (first + n) = 1 then 1 else 0
theorem lkN_0 {f : Nat → Int} {first n m : Nat} (h : lkN f first n ≠ 1) (hm : n ≤ m) : lkN f first m = 0 ∨ lkN f first m = lkN f first n := by
  induction hm with
  | refl => exact Or.inr rfl
  | step hm ih =>
    rename_i m
    left
    show (if lkN f first m = 1 ∧ _ then _ else _) = _
    rw [if_neg]
    rintro ⟨h1, -⟩
    rcases ih with ih | ih
    · omega
    · exact h (ih ▸ h1)
theorem lkN_01 (f : Nat → Int) (first n : Nat) : lkN f first n = 0 ∨ lkN f first n = 1 := by
  cases n with
  | zero => exact Or.inr rfl
  | succ n =>
    show (if _ then _ else _) = _ ∨ (if _ then _ else _) = _
    split
    · exact Or.inr rfl
    · exact Or.inl rfl
theorem rk_01 (f : Nat → Int) (s : Nat) : rk f s = 0 ∨ rk f s = 1 := by
  unfold rk
  split
  · exact Or.inr rfl
  · split
    · exact Or.inr rfl
    · exact Or.inl rfl
theorem lkN_f {f : Nat → Int} {first i n : Nat} (hi : i < n) (h : rk f (first + i) = 0) : lkN f first n = 0 := by
  have h1 : lkN f first (i + 1) = 0 := by
    show (if lkN f first i = 1 ∧ rk f (first + i) = 1 then _ else _) = _
    rw [if_neg (by omega)]
  rcases lkN_0 (f := f) (first := first) (n := i + 1) (m := n) (by omega) (by omega) with h2 | h2
  · exact h2
  · rw [h2, h1]
theorem up_sw {M : iM} {c d : Nat} {f g : Nat → Int} (h : c ≠ d) : va_up (va_up M c f) d g = va_up (va_up M d g) c f := by
  funext e
  unfold va_up
  by_cases h1 : e = c <;> by_cases h2 : e = d <;> simp [h1, h2] <;> omega
def Rd (f : Nat → Int) (first : Nat) (j : Nat) : Int := rd f (first + j / 11) (j % 11)
set_option maxRecDepth 100000 in
theorem c_fetchRun {b : Bool} {M : iM} {first cnt t n : Nat} {rs : List (Option Nat)} (ht : z_at (SH b) t = some (1, n, rs)) (ht2 : t ≠ 2) (ht3 : t ≠ 3) (ht4 : t ≠ 4) (hs : first + cnt ≤ 48) (hn : 11 * cnt ≤ n) (hn2 : n < 1000) (hf : by8 (M 2) 720) (hm : ∀ x : Nat, x < 256 → M 3 x = hN 8 (x : Int)) :
    ∃ J T, irun none zp_46 0 (i_ent [iP 1, iI (first : Int), iI (cnt : Int), iP t] 5) [] (SH b) M 0 0 (some (lkN (M 2) first cnt), SH b, va_up (va_up M 4 J) t T) ∧ (lkN (M 2) first cnt = 1 → ∀ j, j < 11 * cnt → T j = Rd (M 2) first j) ∧ (∀ j, 11 * cnt ≤ j → T j = M t j) := by
  have loop : ∀ (c i : Nat), i + c = cnt → lkN (M 2) first i = 1 → ∀ (J T : Nat → Int), (∀ j, j < 11 * i → T j = Rd (M 2) first j) → (∀ j, 11 * i ≤ j → T j = M t j) →
      ∃ J' T', irun none zp_46 3 [some (iP 1), some (iI (first : Int)), some (iI (cnt : Int)), some (iP t), some (iI (i : Int))] [] (SH b) (va_up (va_up M 4 J) t T) 0 0 (some (lkN (M 2) first cnt), SH b, va_up (va_up M 4 J') t T') ∧ (lkN (M 2) first cnt = 1 → ∀ j, j < 11 * cnt → T' j = Rd (M 2) first j) ∧ (∀ j, 11 * cnt ≤ j → T' j = M t j) := by
    intro c
    induction c with
    | zero =>
      intro i hi hl J T hT hT2
      obtain rfl : i = cnt := by omega
      refine ⟨J, T, ?_, fun _ => hT, hT2⟩
      rw [hl]
      refine i_iload rfl rfl ?_
      refine i_iload_n rfl rfl ?_
      refine i_icmp_ge_t rfl (by first | omega | assumption) ?_
      refine i_iconst (n := 1) rfl (by unfold iR; omega) ?_
      -- at 35
      exact i_zreturn rfl rfl (by first | omega | assumption)
    | succ c ih =>
      intro i hi hl J T hT hT2
      have e2 : (va_up (va_up M 4 J) t T) 2 = M 2 := by rw [up_n (Ne.symm ht2)]; rfl
      have e3 : (va_up (va_up M 4 J) t T) 3 = M 3 := by rw [up_n (Ne.symm ht3)]; rfl
      obtain ⟨J1, h1⟩ := c_fetch (b := b) (M := va_up (va_up M 4 J) t T) (s := first + i) (fr := i * 11) ht ht2 ht4 (by omega) (by omega) hn2 (by rw [e2]; exact hf) (by rw [e3]; exact hm)
      rw [e2, up_s] at h1
      rw [show va_up (va_up (va_up (va_up M 4 J) t T) 4 J1) t (fun k => if rk (M 2) (first + i) = 1 ∧ i * 11 ≤ k ∧ k < i * 11 + 11 then rd (M 2) (first + i) (k - i * 11) else T k) = va_up (va_up M 4 J1) t (fun k => if rk (M 2) (first + i) = 1 ∧ i * 11 ≤ k ∧ k < i * 11 + 11 then rd (M 2) (first + i) (k - i * 11) else T k) by
        rw [up_sw (c := t) (d := 4) ht4, up_up, up_up]] at h1
      rcases rk_01 (M 2) (first + i) with hr | hr
      · refine ⟨J1, fun k => if rk (M 2) (first + i) = 1 ∧ i * 11 ≤ k ∧ k < i * 11 + 11 then rd (M 2) (first + i) (k - i * 11) else T k, ?_, fun q => ?_, fun j hj => ?_⟩
        · rw [lkN_f (i := i) (by omega) hr]
          refine i_iload rfl rfl ?_
          refine i_iload_n rfl rfl ?_
          refine i_icmp_ge_f rfl (by first | omega | assumption) ?_
          refine i_aload_n rfl rfl ?_
          refine i_iload_n rfl rfl ?_
          refine i_iload rfl rfl ?_
          refine i_iadd rfl (by unfold iR; omega) ?_
          refine i_aload_n rfl rfl ?_
          refine i_iload rfl rfl ?_
          refine i_bipush (n := 11) rfl (by unfold iR; omega) (by decide) ?_
          refine i_imul rfl (by unfold iR; omega) ?_
          -- at 20
          refine i_call (T := (45, zp_45)) rfl rfl (h1) rfl rfl rfl rfl rfl rfl rfl ?_
          try dsimp only
          show irun none zp_46 23 _ [iI (rk (M 2) (first + i))] _ _ 0 0 _
          rw [hr]
          refine i_if_ne_f rfl (by first | omega | assumption) ?_
          refine i_iconst (n := 0) rfl (by unfold iR; omega) ?_
          -- at 27
          exact i_zreturn rfl rfl (by first | omega | assumption)
        · have := lkN_f (n := cnt) (i := i) (by omega) hr
          omega
        · dsimp only
          rw [if_neg (by omega)]
          exact hT2 j (by omega)
      · have hl2 : lkN (M 2) first (i + 1) = 1 := by
          show (if lkN (M 2) first i = 1 ∧ rk (M 2) (first + i) = 1 then _ else _) = _
          rw [if_pos ⟨hl, hr⟩]
        obtain ⟨J', T', h2, h3, h4⟩ := ih (i + 1) (by omega) hl2 J1 (fun k => if rk (M 2) (first + i) = 1 ∧ i * 11 ≤ k ∧ k < i * 11 + 11 then rd (M 2) (first + i) (k - i * 11) else T k) (fun j hj => by
          try dsimp only
          by_cases hj2 : i * 11 ≤ j
          · rw [if_pos ⟨hr, hj2, by omega⟩]
            unfold Rd
            rw [show j / 11 = i by omega, show j % 11 = j - i * 11 by omega]
          · rw [if_neg (by omega)]
            exact hT j (by omega)) (fun j hj => by
          try dsimp only
          rw [if_neg (by omega)]
          exact hT2 j (by omega))
        refine ⟨J', T', ?_, h3, h4⟩
        refine i_iload rfl rfl ?_
        refine i_iload_n rfl rfl ?_
        refine i_icmp_ge_f rfl (by first | omega | assumption) ?_
        refine i_aload_n rfl rfl ?_
        refine i_iload_n rfl rfl ?_
        refine i_iload rfl rfl ?_
        refine i_iadd rfl (by unfold iR; omega) ?_
        refine i_aload_n rfl rfl ?_
        refine i_iload rfl rfl ?_
        refine i_bipush (n := 11) rfl (by unfold iR; omega) (by decide) ?_
        refine i_imul rfl (by unfold iR; omega) ?_
        -- at 20
        refine i_call (T := (45, zp_45)) rfl rfl (h1) rfl rfl rfl rfl rfl rfl rfl ?_
        try dsimp only
        show irun none zp_46 23 _ [iI (rk (M 2) (first + i))] _ _ 0 0 _
        rw [hr] at h2 ⊢
        refine i_if_ne_t rfl (by first | omega | assumption) ?_
        refine i_iinc rfl rfl (by unfold iR; omega) (Nat.le_of_ble_eq_true rfl) rfl ?_
        refine i_goto rfl ?_
        -- at 3
        exact h2
  obtain ⟨J, T, h1, h2, h3⟩ := loop cnt 0 (by omega) rfl (M 4) (M t) (fun j hj => by omega) (fun _ _ => rfl)
  refine ⟨J, T, ?_, h2, h3⟩
  rw [up_id M 4 rfl, up_id M t rfl] at h1
  refine i_iconst (n := 0) rfl (by unfold iR; omega) ?_
  refine i_istore rfl (Nat.le_of_ble_eq_true rfl) rfl ?_
  -- at 3
  exact h1
set_option maxRecDepth 100000 in
theorem d_load {b : Bool} {M : iM} {first cnt : Nat} (hs : first + cnt ≤ 48) (hn : 11 * cnt ≤ 520) (hf : by8 (M 41) 720) :
    ∃ S T, irun none zp_138 0 (i_ent [iP 40, iI (first : Int), iI (cnt : Int)] 5) [] (SH b) M 0 0 (some (lkN (M 41) first cnt), SH b, va_up (va_up M 51 S) 60 T) ∧ (lkN (M 41) first cnt = 1 → ∀ j, j < 11 * cnt → T j = Rd (M 41) first j) := by
  have inner : ∀ (q : Option Int × List zS × iM) (i : Nat) (S T : Nat → Int), i < cnt → irun none zp_138 54 [some (iP 40), some (iI (first : Int)), some (iI (cnt : Int)), some (iI (i : Int)), some (iI 11)] [] (SH b) (va_up (va_up M 51 S) 60 (fun j => if 11 * i ≤ j ∧ j < 11 * i + 11 then S (j - 11 * i) else T j)) 0 0 q →
      ∀ (c k : Nat), k + c = 11 → irun none zp_138 22 [some (iP 40), some (iI (first : Int)), some (iI (cnt : Int)), some (iI (i : Int)), some (iI (k : Int))] [] (SH b) (va_up (va_up M 51 S) 60 (fun j => if 11 * i ≤ j ∧ j < 11 * i + k then S (j - 11 * i) else T j)) 0 0 q := by
    intro q i S T hi hk c
    induction c with
    | zero =>
      intro k hk2
      obtain rfl : k = 11 := by omega
      refine i_iload rfl rfl ?_
      refine i_bipush (n := 11) rfl (by unfold iR; omega) (by decide) ?_
      refine i_icmp_ge_t rfl (by first | omega | assumption) ?_
      -- at 54
      exact hk
    | succ c ih =>
      intro k hk2
      have hn := ih (k + 1) (by omega)
      refine i_iload rfl rfl ?_
      refine i_bipush (n := 11) rfl (by unfold iR; omega) (by decide) ?_
      refine i_icmp_ge_f rfl (by first | omega | assumption) ?_
      refine i_aload_n rfl rfl ?_
      refine i_getr rfl rfl rfl rfl (by decide) rfl ?_
      refine i_bipush (n := 11) rfl (by unfold iR; omega) (by decide) ?_
      refine i_iload_n rfl rfl ?_
      refine i_imul rfl (by unfold iR; omega) ?_
      refine i_iload rfl rfl ?_
      refine i_iadd rfl (by unfold iR; omega) ?_
      refine i_aload_n rfl rfl ?_
      refine i_getr rfl rfl rfl rfl (by decide) rfl ?_
      refine i_iload rfl rfl ?_
      refine i_iald rfl rfl (by first | omega | assumption) (by first | omega | assumption) (by decide) ?_
      refine i_iast rfl rfl (by first | omega | assumption) (by first | omega | assumption) ?_
      refine i_iinc rfl rfl (by unfold iR; omega) (Nat.le_of_ble_eq_true rfl) rfl ?_
      refine i_goto rfl ?_
      -- at 22
      rw [st_up (g := fun j => if 11 * i ≤ j ∧ j < 11 * i + (k + 1) then S (j - 11 * i) else T j)]
      · exact hn
      · rw [show (11 * (i : Int) + (k : Int)).toNat = 11 * i + k by omega, show (k : Int).toNat = k by omega]
        show va_up _ (11 * i + k) (S k) = _
        funext j
        have e : S k = S (11 * i + k - 11 * i) := by rw [show 11 * i + k - 11 * i = k by omega]
        grind [va_up]
  have loop : ∀ (c i : Nat), i + c = cnt → lkN (M 41) first i = 1 → ∀ (l4 : Option iV), (∀ (S T : Nat → Int), (∀ j, j < 11 * i → T j = Rd (M 41) first j) →
      ∃ S' T', irun none zp_138 2 [some (iP 40), some (iI (first : Int)), some (iI (cnt : Int)), some (iI (i : Int)), l4] [] (SH b) (va_up (va_up M 51 S) 60 T) 0 0 (some (lkN (M 41) first cnt), SH b, va_up (va_up M 51 S') 60 T') ∧ (lkN (M 41) first cnt = 1 → ∀ j, j < 11 * cnt → T' j = Rd (M 41) first j)) := by
    intro c
    induction c with
    | zero =>
      intro i hi hl l4 S T hT
      obtain rfl : i = cnt := by omega
      refine ⟨S, T, ?_, fun _ => hT⟩
      rw [hl]
      refine i_iload_n rfl rfl ?_
      refine i_iload_n rfl rfl ?_
      refine i_icmp_ge_t rfl (by first | omega | assumption) ?_
      refine i_iconst (n := 1) rfl (by unfold iR; omega) ?_
      -- at 61
      exact i_zreturn rfl rfl (by first | omega | assumption)
    | succ c ih =>
      intro i hi hl l4 S T hT
      obtain ⟨S1, h1, h1b⟩ := d_read (b := b) (M := va_up (va_up M 51 S) 60 T) (s := first + i) (by omega) hf
      rw [show va_up (va_up (va_up M 51 S) 60 T) 51 S1 = va_up (va_up M 51 S1) 60 T by rw [up_sw (c := 60) (d := 51) (by decide), up_up]] at h1
      have h1 : irun none zp_115 0 (i_ent [iP 40, iI ((first + i : Nat) : Int)] 4) [] (SH b) (va_up (va_up M 51 S) 60 T) 0 0 (some (rk (M 41) (first + i)), SH b, va_up (va_up M 51 S1) 60 T) := h1
      rcases rk_01 (M 41) (first + i) with hr | hr
      · refine ⟨S1, T, ?_, fun q => ?_⟩
        · rw [lkN_f (i := i) (by omega) hr]
          refine i_iload_n rfl rfl ?_
          refine i_iload_n rfl rfl ?_
          refine i_icmp_ge_f rfl (by first | omega | assumption) ?_
          refine i_aload_n rfl rfl ?_
          refine i_iload_n rfl rfl ?_
          refine i_iload_n rfl rfl ?_
          refine i_iadd rfl (by unfold iR; omega) ?_
          -- at 11
          refine i_call (T := (115, zp_115)) rfl rfl (h1) rfl rfl rfl rfl rfl rfl rfl ?_
          try dsimp only
          show irun none zp_138 14 _ [iI (rk (M 41) (first + i))] _ _ 0 0 _
          rw [hr]
          refine i_if_ne_f rfl (by first | omega | assumption) ?_
          refine i_iconst (n := 0) rfl (by unfold iR; omega) ?_
          -- at 18
          exact i_zreturn rfl rfl (by first | omega | assumption)
        · have := lkN_f (n := cnt) (i := i) (by omega) hr
          omega
      · have hl2 : lkN (M 41) first (i + 1) = 1 := by
          show (if lkN (M 41) first i = 1 ∧ rk (M 41) (first + i) = 1 then _ else _) = _
          rw [if_pos ⟨hl, hr⟩]
        have h1b : ∀ k, k < 11 → S1 k = rd (M 41) (first + i) k := h1b hr
        have hT1 : ∀ T' : Nat → Int, (∀ j, j < 11 * i → T' j = T j) → (∀ k, k < 11 → T' (11 * i + k) = rd (M 41) (first + i) k) → ∀ j, j < 11 * (i + 1) → T' j = Rd (M 41) first j := by
          intro T' g1 g2 j hj
          by_cases hj2 : j < 11 * i
          · rw [g1 j hj2, hT j hj2]
          · have := g2 (j - 11 * i) (by omega)
            rw [show 11 * i + (j - 11 * i) = j by omega] at this
            rw [this]
            unfold Rd
            rw [show j / 11 = i by omega, show j % 11 = j - 11 * i by omega]
        obtain ⟨S', T', h2, h3⟩ := ih (i + 1) (by omega) hl2 (some (iI 11)) S1 (fun j => if 11 * i ≤ j ∧ j < 11 * i + 11 then S1 (j - 11 * i) else T j) (hT1 _ (fun j hj => by rw [if_neg (by omega)]) (fun k hk => by
          rw [if_pos (by omega), show 11 * i + k - 11 * i = k by omega]
          exact h1b k hk))
        refine ⟨S', T', ?_, h3⟩
        refine i_iload_n rfl rfl ?_
        refine i_iload_n rfl rfl ?_
        refine i_icmp_ge_f rfl (by first | omega | assumption) ?_
        refine i_aload_n rfl rfl ?_
        refine i_iload_n rfl rfl ?_
        refine i_iload_n rfl rfl ?_
        refine i_iadd rfl (by unfold iR; omega) ?_
        -- at 11
        refine i_call (T := (115, zp_115)) rfl rfl (h1) rfl rfl rfl rfl rfl rfl rfl ?_
        try dsimp only
        show irun none zp_138 14 _ [iI (rk (M 41) (first + i))] _ _ 0 0 _
        rw [hr]
        refine i_if_ne_t rfl (by first | omega | assumption) ?_
        refine i_iconst (n := 0) rfl (by unfold iR; omega) ?_
        refine i_istore rfl (Nat.le_of_ble_eq_true rfl) rfl ?_
        -- at 22
        have hin := inner (some (lkN (M 41) first cnt), SH b, va_up (va_up M 51 S') 60 T') i S1 T (by omega) ?_ 11 0 rfl
        · rw [show (fun j => if 11 * i ≤ j ∧ j < 11 * i + 0 then S1 (j - 11 * i) else T j) = T by funext j; rw [if_neg (by omega)]] at hin
          exact hin
        · refine i_iinc rfl rfl (by unfold iR; omega) (Nat.le_of_ble_eq_true rfl) rfl ?_
          refine i_goto rfl ?_
          -- at 2
          exact h2
  obtain ⟨S, T, h1, h2⟩ := loop cnt 0 (by omega) rfl none (M 51) (M 60) (fun j hj => by omega)
  refine ⟨S, T, ?_, h2⟩
  rw [up_id M 51 rfl, up_id M 60 rfl] at h1
  refine i_iconst (n := 0) rfl (by unfold iR; omega) ?_
  refine i_istore_n rfl (Nat.le_of_ble_eq_true rfl) rfl ?_
  -- at 2
  exact h1
