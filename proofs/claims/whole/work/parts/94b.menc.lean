set_option maxRecDepth 100000 in
theorem d_stE {b : Bool} {M : iM} {S : Nat → Int} {n : Nat} (hn : M 40 14 = (n : Int)) (h96 : n ≤ 96) (hS : ∀ j, j < n → M 48 j = S j ∧ 0 ≤ S j ∧ S j < 256) (h : OW M []) : ∃ M', irun none zp_121 0 (i_ent [iP 40] 2) [] (SH b) M 0 0 (none, SH b, M') ∧ Fr [40, 50] M M' ∧ G2 M M' ∧ OW M' (eS S n) := by
  have loop : ∀ (c i : Nat) (M : iM), i + c = n → M 40 14 = (n : Int) → (∀ j, j < n → M 48 j = S j ∧ 0 ≤ S j ∧ S j < 256) → OW M (eS S i) → ∃ M', irun none zp_121 2 [some (iP 40), some (iI (i : Int))] [] (SH b) M 0 0 (none, SH b, M') ∧ Fr [40, 50] M M' ∧ G2 M M' ∧ OW M' (eS S n) := by
    intro c
    induction c with
    | zero =>
      intro i M hi hn hS h
      obtain rfl : i = n := by omega
      refine ⟨M, ?_, Fr_r _ _, fun _ _ => rfl, h⟩
      refine i_iload_n rfl rfl ?_
      refine i_aload_n rfl rfl ?_
      refine i_getf rfl rfl rfl rfl (by decide) ?_
      refine i_icmp_ge_t rfl (by first | omega | assumption) ?_
      -- at 28
      exact i_vreturn rfl rfl
    | succ c ih =>
      intro i M hi hn hS h
      obtain ⟨s1, s2⟩ := hS i (by omega)
      obtain ⟨M1, k1, k2, k3, k4⟩ := d_low (b := b) (v := S i) (n := 8) h (by rw [eS_len]; omega) (by rw [eS_len]; omega) (by decide) s2.1
      obtain ⟨M', g1, g2, g3, g4⟩ := ih (i + 1) M1 (by omega) ((k3 14 (by decide)).trans hn) (by rw [k2 48 (by decide)]; exact hS) k4
      refine ⟨M', ?_, Fr_t k2 g2 (by decide), G2_t k3 g3, g4⟩
      refine i_iload_n rfl rfl ?_
      refine i_aload_n rfl rfl ?_
      refine i_getf rfl rfl rfl rfl (by decide) ?_
      refine i_icmp_ge_f rfl (by first | omega | assumption) ?_
      refine i_aload_n rfl rfl ?_
      refine i_aload_n rfl rfl ?_
      refine i_getr rfl rfl rfl rfl (by decide) rfl ?_
      refine i_iload_n rfl rfl ?_
      refine i_iald rfl rfl (by first | omega | assumption) (by first | omega | assumption) (by decide) ?_
      -- at 17
      rw [show (i : Int).toNat = i by omega, s1]
      refine i_bipush (n := 8) rfl (by unfold iR; omega) (by decide) ?_
      -- at 19
      refine i_call (T := (119, zp_119)) rfl rfl (k1) rfl rfl rfl rfl rfl rfl rfl ?_
      try dsimp only
      refine i_iinc rfl rfl (by unfold iR; omega) (Nat.le_of_ble_eq_true rfl) rfl ?_
      refine i_goto rfl ?_
      -- at 2
      exact g1
  obtain ⟨M', g1, g2⟩ := loop n 0 M (by omega) hn hS h
  refine ⟨M', ?_, g2⟩
  refine i_iconst (n := 0) rfl (by unfold iR; omega) ?_
  refine i_istore_n rfl (Nat.le_of_ble_eq_true rfl) rfl ?_
  -- at 2
  exact g1
/-- the bytes as a codec takes them -/
def sA (S : Nat → Int) (ap : Int) : Nat → Int := if ap = 1 then ds S else S
set_option maxRecDepth 100000 in
theorem d_byteAt {b : Bool} {M : iM} {S : Nat → Int} {n i : Nat} {ap : Int} (h96 : n ≤ 96) (hS : ∀ j, j < n → M 48 j = S j ∧ 0 ≤ S j ∧ S j < 256) (hap : ap = 0 ∨ ap = 1) (hi : i < n) : irun none zp_120 0 (i_ent [iP 40, iI (i : Int), iI ap] 3) [] (SH b) M 0 0 (some (sA S ap i), SH b, M) := by
  have s1 := hS i hi
  rcases hap with rfl | rfl
  · rw [show sA S 0 = S from rfl, ← s1.1, show i = (i : Int).toNat by omega]
    refine i_iload_n rfl rfl ?_
    refine i_if_eq_t rfl (by first | omega | assumption) ?_
    refine i_aload_n rfl rfl ?_
    refine i_getr rfl rfl rfl rfl (by decide) rfl ?_
    refine i_iload_n rfl rfl ?_
    refine i_iald rfl rfl (by first | omega | assumption) (by first | omega | assumption) (by decide) ?_
    -- at 36
    exact i_ireturn rfl rfl
  · rw [show sA S 1 = ds S from rfl]
    by_cases i0 : i = 0
    · subst i0
      rw [show ds S 0 = S 0 from rfl, ← s1.1]
      refine i_iload_n rfl rfl ?_
      refine i_if_eq_f rfl (by first | omega | assumption) ?_
      refine i_iload_n rfl rfl ?_
      refine i_if_le_t rfl (by first | omega | assumption) ?_
      refine i_aload_n rfl rfl ?_
      refine i_getr rfl rfl rfl rfl (by decide) rfl ?_
      refine i_iload_n rfl rfl ?_
      refine i_iald rfl rfl (by first | omega | assumption) (by first | omega | assumption) (by decide) ?_
      -- at 36
      exact i_ireturn rfl rfl
    · have s2 := hS (i - 1) (by omega)
      refine i_iload_n rfl rfl ?_
      refine i_if_eq_f rfl (by first | omega | assumption) ?_
      refine i_iload_n rfl rfl ?_
      refine i_if_le_f rfl (by first | omega | assumption) ?_
      refine i_aload_n rfl rfl ?_
      refine i_getr rfl rfl rfl rfl (by decide) rfl ?_
      refine i_iload_n rfl rfl ?_
      refine i_iald rfl rfl (by first | omega | assumption) (by first | omega | assumption) (by decide) ?_
      -- at 14
      rw [show (i : Int).toNat = i by omega, s1.1]
      refine i_aload_n rfl rfl ?_
      refine i_getr rfl rfl rfl rfl (by decide) rfl ?_
      refine i_iload_n rfl rfl ?_
      refine i_iconst (n := 1) rfl (by unfold iR; omega) ?_
      refine i_isub rfl (by unfold iR; omega) ?_
      refine i_iald rfl rfl (by first | omega | assumption) (by first | omega | assumption) (by decide) ?_
      -- at 22
      rw [show ((i : Int) - 1).toNat = i - 1 by omega, s2.1]
      refine i_isub rfl (by unfold iR; omega) ?_
      refine i_sipush (n := 255) rfl (by unfold iR; omega) (by decide) ?_
      refine i_iand 8 rfl (by decide) (by decide) ?_
      refine i_goto rfl ?_
      -- at 36
      rw [show ds S i = (S i - S (i - 1)) % 256 by unfold ds; rw [if_neg i0]]
      exact i_ireturn rfl rfl
set_option maxRecDepth 100000 in
theorem d_same {b : Bool} {M : iM} {S : Nat → Int} {n i d : Nat} {ap : Int} (hn : M 40 14 = (n : Int)) (h96 : n ≤ 96) (hS : ∀ j, j < n → M 48 j = S j ∧ 0 ≤ S j ∧ S j < 256) (hap : ap = 0 ∨ ap = 1) (hd : 1 ≤ d) (hdi : d ≤ i) (hi : i < n) : irun none zp_122 0 (i_ent [iP 40, iI (i : Int), iI (d : Int), iI ap] 5) [] (SH b) M 0 0 (some (mlen (sA S ap) n i d : Int), SH b, M) := by
  have loop : ∀ (c len : Nat), len + c = 9 → irun none zp_122 3 [some (iP 40), some (iI (i : Int)), some (iI (d : Int)), some (iI ap), some (iI (len : Int))] [] (SH b) M 0 0 (some (ml (sA S ap) n i d c len : Int), SH b, M) := by
    intro c
    induction c with
    | zero =>
      intro len hl
      obtain rfl : len = 9 := by omega
      refine i_iload rfl rfl ?_
      refine i_bipush (n := 9) rfl (by unfold iR; omega) (by decide) ?_
      refine i_icmp_ge_t rfl (by first | omega | assumption) ?_
      refine i_iload rfl rfl ?_
      -- at 52
      exact i_ireturn rfl rfl
    | succ c ih =>
      intro len hl
      have hnx := ih (len + 1) (by omega)
      unfold ml
      by_cases c1 : i + len < n
      · have e1 := d_byteAt (b := b) (i := i + len) h96 hS hap c1
        have e2 := d_byteAt (b := b) (i := i + len - d) h96 hS hap (by omega)
        rw [show ((i + len : Nat) : Int) = (i : Int) + len by omega] at e1
        rw [show ((i + len - d : Nat) : Int) = (i : Int) + len - d by omega] at e2
        by_cases c2 : sA S ap (i + len) = sA S ap (i + len - d)
        · rw [if_pos ⟨c1, c2⟩]
          refine i_iload rfl rfl ?_
          refine i_bipush (n := 9) rfl (by unfold iR; omega) (by decide) ?_
          refine i_icmp_ge_f rfl (by first | omega | assumption) ?_
          refine i_iload_n rfl rfl ?_
          refine i_iload rfl rfl ?_
          refine i_iadd rfl (by unfold iR; omega) ?_
          refine i_aload_n rfl rfl ?_
          refine i_getf rfl rfl rfl rfl (by decide) ?_
          refine i_icmp_ge_f rfl (by first | omega | assumption) ?_
          refine i_aload_n rfl rfl ?_
          refine i_iload_n rfl rfl ?_
          refine i_iload rfl rfl ?_
          refine i_iadd rfl (by unfold iR; omega) ?_
          refine i_iload_n rfl rfl ?_
          -- at 27
          refine i_call (T := (120, zp_120)) rfl rfl (e1) rfl rfl rfl rfl rfl rfl rfl ?_
          try dsimp only
          show irun none zp_122 30 _ (iI (sA S ap (i + len)) :: _) _ _ 0 0 _
          refine i_aload_n rfl rfl ?_
          refine i_iload_n rfl rfl ?_
          refine i_iload rfl rfl ?_
          refine i_iadd rfl (by unfold iR; omega) ?_
          refine i_iload_n rfl rfl ?_
          refine i_isub rfl (by unfold iR; omega) ?_
          refine i_iload_n rfl rfl ?_
          -- at 38
          refine i_call (T := (120, zp_120)) rfl rfl (e2) rfl rfl rfl rfl rfl rfl rfl ?_
          try dsimp only
          show irun none zp_122 41 _ (iI (sA S ap (i + len - d)) :: _) _ _ 0 0 _
          refine i_icmp_ne_f rfl (by first | omega | assumption) ?_
          refine i_iinc rfl rfl (by unfold iR; omega) (Nat.le_of_ble_eq_true rfl) rfl ?_
          refine i_goto rfl ?_
          -- at 3
          exact hnx
        · rw [if_neg (fun q => c2 q.2)]
          refine i_iload rfl rfl ?_
          refine i_bipush (n := 9) rfl (by unfold iR; omega) (by decide) ?_
          refine i_icmp_ge_f rfl (by first | omega | assumption) ?_
          refine i_iload_n rfl rfl ?_
          refine i_iload rfl rfl ?_
          refine i_iadd rfl (by unfold iR; omega) ?_
          refine i_aload_n rfl rfl ?_
          refine i_getf rfl rfl rfl rfl (by decide) ?_
          refine i_icmp_ge_f rfl (by first | omega | assumption) ?_
          refine i_aload_n rfl rfl ?_
          refine i_iload_n rfl rfl ?_
          refine i_iload rfl rfl ?_
          refine i_iadd rfl (by unfold iR; omega) ?_
          refine i_iload_n rfl rfl ?_
          -- at 27
          refine i_call (T := (120, zp_120)) rfl rfl (e1) rfl rfl rfl rfl rfl rfl rfl ?_
          try dsimp only
          show irun none zp_122 30 _ (iI (sA S ap (i + len)) :: _) _ _ 0 0 _
          refine i_aload_n rfl rfl ?_
          refine i_iload_n rfl rfl ?_
          refine i_iload rfl rfl ?_
          refine i_iadd rfl (by unfold iR; omega) ?_
          refine i_iload_n rfl rfl ?_
          refine i_isub rfl (by unfold iR; omega) ?_
          refine i_iload_n rfl rfl ?_
          -- at 38
          refine i_call (T := (120, zp_120)) rfl rfl (e2) rfl rfl rfl rfl rfl rfl rfl ?_
          try dsimp only
          show irun none zp_122 41 _ (iI (sA S ap (i + len - d)) :: _) _ _ 0 0 _
          refine i_icmp_ne_t rfl (by first | omega | assumption) ?_
          refine i_iload rfl rfl ?_
          -- at 52
          exact i_ireturn rfl rfl
      · rw [if_neg (fun q => c1 q.1)]
        refine i_iload rfl rfl ?_
        refine i_bipush (n := 9) rfl (by unfold iR; omega) (by decide) ?_
        refine i_icmp_ge_f rfl (by first | omega | assumption) ?_
        refine i_iload_n rfl rfl ?_
        refine i_iload rfl rfl ?_
        refine i_iadd rfl (by unfold iR; omega) ?_
        refine i_aload_n rfl rfl ?_
        refine i_getf rfl rfl rfl rfl (by decide) ?_
        refine i_icmp_ge_t rfl (by first | omega | assumption) ?_
        refine i_iload rfl rfl ?_
        -- at 52
        exact i_ireturn rfl rfl
  refine i_iconst (n := 0) rfl (by unfold iR; omega) ?_
  refine i_istore rfl (Nat.le_of_ble_eq_true rfl) rfl ?_
  -- at 3
  exact loop 9 0 rfl
set_option maxRecDepth 100000 in
theorem d_mtB {b : Bool} {M : iM} {S : Nat → Int} {n i : Nat} {ap : Int} (hn : M 40 14 = (n : Int)) (h96 : n ≤ 96) (hS : ∀ j, j < n → M 48 j = S j ∧ 0 ≤ S j ∧ S j < 256) (hap : ap = 0 ∨ ap = 1) (hi : i < n) :
    ∀ (c k : Nat) (l6 : Option iV), k + c = min 16 i → ∃ l6' : Option iV, ∀ q, irun none zp_123 61 [some (iP 40), some (iI ap), some (iI (i : Int)), some (iI (far (sA S ap) n i : Int)), some (iI (fln (sA S ap) n i : Int)), some (iI ((min 16 i + 1 : Nat) : Int)), l6'] [] (SH b) M 0 0 q → irun none zp_123 18 [some (iP 40), some (iI ap), some (iI (i : Int)), some (iI ((rN (sA S ap) n i k).1 : Int)), some (iI ((rN (sA S ap) n i k).2 : Int)), some (iI ((k + 1 : Nat) : Int)), l6] [] (SH b) M 0 0 q := by
  intro c
  induction c with
  | zero =>
    intro k l6 hk
    obtain rfl : k = min 16 i := by omega
    refine ⟨l6, fun q hq => ?_⟩
    by_cases c1 : 16 ≤ i
    · refine i_iload rfl rfl ?_
      refine i_bipush (n := 16) rfl (by unfold iR; omega) (by decide) ?_
      refine i_icmp_gt_t rfl (by first | omega | assumption) ?_
      -- at 61
      exact hq
    · refine i_iload rfl rfl ?_
      refine i_bipush (n := 16) rfl (by unfold iR; omega) (by decide) ?_
      refine i_icmp_gt_f rfl (by first | omega | assumption) ?_
      refine i_iload rfl rfl ?_
      refine i_iload_n rfl rfl ?_
      refine i_icmp_gt_t rfl (by first | omega | assumption) ?_
      -- at 61
      exact hq
  | succ c ih =>
    intro k l6 hk
    have hm := d_same (b := b) (d := k + 1) hn h96 hS hap (by omega) (by omega) hi
    obtain ⟨l6', hnx⟩ := ih (k + 1) (some (iI (mlen (sA S ap) n i (k + 1) : Int))) (by omega)
    rw [show rN (sA S ap) n i (k + 1) = if (rN (sA S ap) n i k).2 < mlen (sA S ap) n i (k + 1) then (k + 1, mlen (sA S ap) n i (k + 1)) else rN (sA S ap) n i k from rfl] at hnx
    refine ⟨l6', fun q hq => ?_⟩
    have hnx := hnx q hq
    by_cases c1 : (rN (sA S ap) n i k).2 < mlen (sA S ap) n i (k + 1)
    · rw [if_pos c1] at hnx
      refine i_iload rfl rfl ?_
      refine i_bipush (n := 16) rfl (by unfold iR; omega) (by decide) ?_
      refine i_icmp_gt_f rfl (by first | omega | assumption) ?_
      refine i_iload rfl rfl ?_
      refine i_iload_n rfl rfl ?_
      refine i_icmp_gt_f rfl (by first | omega | assumption) ?_
      refine i_aload_n rfl rfl ?_
      refine i_iload_n rfl rfl ?_
      refine i_iload rfl rfl ?_
      refine i_iload_n rfl rfl ?_
      -- at 36
      refine i_call (T := (122, zp_122)) rfl rfl (hm) rfl rfl rfl rfl rfl rfl rfl ?_
      try dsimp only
      show irun none zp_123 39 _ (iI ((mlen (sA S ap) n i (k + 1) : Int)) :: _) _ _ 0 0 _
      refine i_istore rfl (Nat.le_of_ble_eq_true rfl) rfl ?_
      refine i_iload rfl rfl ?_
      refine i_iload rfl rfl ?_
      refine i_icmp_le_f rfl (by first | omega | assumption) ?_
      refine i_iload rfl rfl ?_
      refine i_istore rfl (Nat.le_of_ble_eq_true rfl) rfl ?_
      refine i_iload rfl rfl ?_
      refine i_istore_n rfl (Nat.le_of_ble_eq_true rfl) rfl ?_
      refine i_iinc rfl rfl (by unfold iR; omega) (Nat.le_of_ble_eq_true rfl) rfl ?_
      refine i_goto rfl ?_
      -- at 18
      exact hnx
    · rw [if_neg c1] at hnx
      refine i_iload rfl rfl ?_
      refine i_bipush (n := 16) rfl (by unfold iR; omega) (by decide) ?_
      refine i_icmp_gt_f rfl (by first | omega | assumption) ?_
      refine i_iload rfl rfl ?_
      refine i_iload_n rfl rfl ?_
      refine i_icmp_gt_f rfl (by first | omega | assumption) ?_
      refine i_aload_n rfl rfl ?_
      refine i_iload_n rfl rfl ?_
      refine i_iload rfl rfl ?_
      refine i_iload_n rfl rfl ?_
      -- at 36
      refine i_call (T := (122, zp_122)) rfl rfl (hm) rfl rfl rfl rfl rfl rfl rfl ?_
      try dsimp only
      show irun none zp_123 39 _ (iI ((mlen (sA S ap) n i (k + 1) : Int)) :: _) _ _ 0 0 _
      refine i_istore rfl (Nat.le_of_ble_eq_true rfl) rfl ?_
      refine i_iload rfl rfl ?_
      refine i_iload rfl rfl ?_
      refine i_icmp_le_t rfl (by first | omega | assumption) ?_
      refine i_iinc rfl rfl (by unfold iR; omega) (Nat.le_of_ble_eq_true rfl) rfl ?_
      refine i_goto rfl ?_
      -- at 18
      exact hnx
set_option maxRecDepth 100000 in
theorem d_mtX {b : Bool} {M : iM} {S : Nat → Int} {n i : Nat} {ap : Int} {l3 l4 l5 l6 : Option iV} (hn : M 40 14 = (n : Int)) (h96 : n ≤ 96) (hS : ∀ j, j < n → M 48 j = S j ∧ 0 ≤ S j ∧ S j < 256) (hap : ap = 0 ∨ ap = 1) (hi : i < n) (z4 : i_free [some (iP 40), some (iI ap), some (iI (i : Int)), l3, l4, l5, l6] 4 = true) (z5 : i_free [some (iP 40), some (iI ap), some (iI (i : Int)), l3, l4, l5, l6] 5 = true) (z6 : i_free [some (iP 40), some (iI ap), some (iI (i : Int)), l3, l4, l5, l6] 6 = true) :
    ∃ l6' : Option iV, ∀ q, irun none zp_123 61 [some (iP 40), some (iI ap), some (iI (i : Int)), some (iI (far (sA S ap) n i : Int)), some (iI (fln (sA S ap) n i : Int)), some (iI ((min 16 i + 1 : Nat) : Int)), l6'] [] (SH b) M 0 0 q → irun none zp_123 2 [some (iP 40), some (iI ap), some (iI (i : Int)), l3, l4, l5, l6] [] (SH b) M 0 0 q := by
  obtain ⟨l6', h⟩ := d_mtB (b := b) hn h96 hS hap hi (min 16 i) 0 l6 (by omega)
  refine ⟨l6', fun q hq => ?_⟩
  have h := h q hq
  refine i_iload_n rfl rfl ?_
  refine i_aload_n rfl rfl ?_
  refine i_getf rfl rfl rfl rfl (by decide) ?_
  refine i_icmp_ge_f rfl (by first | omega | assumption) ?_
  refine i_iconst (n := 0) rfl (by unfold iR; omega) ?_
  refine i_istore_n rfl (Nat.le_of_ble_eq_true rfl) rfl ?_
  refine i_iconst (n := 1) rfl (by unfold iR; omega) ?_
  refine i_istore rfl (Nat.le_of_ble_eq_true rfl) rfl ?_
  refine i_iconst (n := 1) rfl (by unfold iR; omega) ?_
  refine i_istore rfl (Nat.le_of_ble_eq_true rfl) rfl ?_
  -- at 18
  exact h
set_option maxRecDepth 100000 in
theorem d_mtE {b : Bool} {M : iM} {S : Nat → Int} {n : Nat} {ap : Int} (hn : M 40 14 = (n : Int)) (h96 : n ≤ 96) (hS : ∀ j, j < n → M 48 j = S j ∧ 0 ≤ S j ∧ S j < 256) (hap : ap = 0 ∨ ap = 1) (h : OW M []) : ∃ M', irun none zp_123 0 (i_ent [iP 40, iI ap] 7) [] (SH b) M 0 0 (none, SH b, M') ∧ Fr [40, 50] M M' ∧ G2 M M' ∧ OW M' (me (sA S ap) n n 0 []) := by
  have loop : ∀ (c i : Nat) (M : iM) (l : List Int) (l3 l4 l5 l6 : Option iV), i_free [some (iP 40), some (iI ap), some (iI (i : Int)), l3, l4, l5, l6] 4 = true → i_free [some (iP 40), some (iI ap), some (iI (i : Int)), l3, l4, l5, l6] 5 = true → i_free [some (iP 40), some (iI ap), some (iI (i : Int)), l3, l4, l5, l6] 6 = true → n ≤ i + c → i ≤ n → M 40 14 = (n : Int) → (∀ j, j < n → M 48 j = S j ∧ 0 ≤ S j ∧ S j < 256) → OW M l → l.length ≤ 9 * i → ∃ M', irun none zp_123 2 [some (iP 40), some (iI ap), some (iI (i : Int)), l3, l4, l5, l6] [] (SH b) M 0 0 (none, SH b, M') ∧ Fr [40, 50] M M' ∧ G2 M M' ∧ OW M' (me (sA S ap) n c i l) := by
    intro c
    induction c with
    | zero =>
      intro i M l l3 l4 l5 l6 z4 z5 z6 hi hi2 hn hS h hl
      refine ⟨M, ?_, Fr_r _ _, fun _ _ => rfl, h⟩
      refine i_iload_n rfl rfl ?_
      refine i_aload_n rfl rfl ?_
      refine i_getf rfl rfl rfl rfl (by decide) ?_
      refine i_icmp_ge_t rfl (by first | omega | assumption) ?_
      -- at 118
      exact i_vreturn rfl rfl
    | succ c ih =>
      intro i M l l3 l4 l5 l6 z4 z5 z6 hi hi2 hn hS h hl
      by_cases hin : i < n
      · have fb := far_b (S := sA S ap) hin
        unfold me
        rw [if_pos hin]
        by_cases c2 : 0 < far (sA S ap) n i
        · rw [if_pos c2]
          obtain ⟨M1, a1, a2, a3, a4⟩ := d_putBit (b := b) (v := 1) h (by omega) (by omega) (Or.inr rfl)
          obtain ⟨M2, b1, b2, b3, b4⟩ := d_low (b := b) (v := (far (sA S ap) n i : Int) - 1) (n := 4) a4 (by simp; omega) (by right; simp; omega) (by decide) (by omega)
          obtain ⟨M3, d1, d2, d3, d4⟩ := d_low (b := b) (v := (fln (sA S ap) n i : Int) - 2) (n := 3) b4 (by simp [vb_len]; omega) (by right; simp [vb_len]; omega) (by decide) (by omega)
          have f3 : Fr [40, 50] M M3 := Fr_t (Fr_t a2 b2 (by decide)) d2 (by decide)
          have g3 : G2 M M3 := G2_t (G2_t a3 b3) d3
          -- the last local is of no weight: it is fixed by running on
          have hst : ∀ q (l6 : Option iV), irun none zp_123 2 [some (iP 40), some (iI ap), some (iI ((i + fln (sA S ap) n i : Nat) : Int)), some (iI (far (sA S ap) n i : Int)), some (iI (fln (sA S ap) n i : Int)), some (iI ((min 16 i + 1 : Nat) : Int)), l6] [] (SH b) M3 0 0 q → irun none zp_123 61 [some (iP 40), some (iI ap), some (iI (i : Int)), some (iI (far (sA S ap) n i : Int)), some (iI (fln (sA S ap) n i : Int)), some (iI ((min 16 i + 1 : Nat) : Int)), l6] [] (SH b) M 0 0 q := by
            intro q l6 hq
            refine i_aload_n rfl rfl ?_
            refine i_iload_n rfl rfl ?_
            refine i_if_le_f rfl (by first | omega | assumption) ?_
            refine i_iconst (n := 1) rfl (by unfold iR; omega) ?_
            refine i_goto rfl ?_
            -- at 71
            refine i_call (T := (118, zp_118)) rfl rfl (a1) rfl rfl rfl rfl rfl rfl rfl ?_
            try dsimp only
            refine i_iload_n rfl rfl ?_
            refine i_if_le_f rfl (by first | omega | assumption) ?_
            refine i_aload_n rfl rfl ?_
            refine i_iload_n rfl rfl ?_
            refine i_iconst (n := 1) rfl (by unfold iR; omega) ?_
            refine i_isub rfl (by unfold iR; omega) ?_
            refine i_iconst (n := 4) rfl (by unfold iR; omega) ?_
            -- at 83
            refine i_call (T := (119, zp_119)) rfl rfl (b1) rfl rfl rfl rfl rfl rfl rfl ?_
            try dsimp only
            refine i_aload_n rfl rfl ?_
            refine i_iload rfl rfl ?_
            refine i_iconst (n := 2) rfl (by unfold iR; omega) ?_
            refine i_isub rfl (by unfold iR; omega) ?_
            refine i_iconst (n := 3) rfl (by unfold iR; omega) ?_
            -- at 92
            refine i_call (T := (119, zp_119)) rfl rfl (d1) rfl rfl rfl rfl rfl rfl rfl ?_
            try dsimp only
            refine i_goto rfl ?_
            refine i_iload_n rfl rfl ?_
            refine i_iload rfl rfl ?_
            refine i_iadd rfl (by unfold iR; omega) ?_
            refine i_istore_n rfl (Nat.le_of_ble_eq_true rfl) rfl ?_
            refine i_goto rfl ?_
            -- at 2
            exact hq
          have hih : ∀ l6 : Option iV, ∃ M', irun none zp_123 2 [some (iP 40), some (iI ap), some (iI ((i + fln (sA S ap) n i : Nat) : Int)), some (iI (far (sA S ap) n i : Int)), some (iI (fln (sA S ap) n i : Int)), some (iI ((min 16 i + 1 : Nat) : Int)), l6] [] (SH b) M3 0 0 (none, SH b, M') ∧ Fr [40, 50] M3 M' ∧ G2 M3 M' ∧ OW M' (me (sA S ap) n c (i + fln (sA S ap) n i) (l ++ [1] ++ vb ((far (sA S ap) n i : Int) - 1) 4 ++ vb ((fln (sA S ap) n i : Int) - 2) 3)) := fun l6 => ih (i + fln (sA S ap) n i) M3 _ (some (iI (far (sA S ap) n i : Int))) (some (iI (fln (sA S ap) n i : Int))) (some (iI ((min 16 i + 1 : Nat) : Int))) l6 rfl rfl rfl (by omega) (by omega) ((g3 14 (by decide)).trans hn) (by rw [f3 48 (by decide)]; exact hS) d4 (by simp [vb_len]; omega)
          -- which one it is: the one behind the search
          obtain ⟨l6', hl6⟩ : ∃ l6' : Option iV, ∀ q, irun none zp_123 61 [some (iP 40), some (iI ap), some (iI (i : Int)), some (iI (far (sA S ap) n i : Int)), some (iI (fln (sA S ap) n i : Int)), some (iI ((min 16 i + 1 : Nat) : Int)), l6'] [] (SH b) M 0 0 q → irun none zp_123 2 [some (iP 40), some (iI ap), some (iI (i : Int)), l3, l4, l5, l6] [] (SH b) M 0 0 q := d_mtX (b := b) hn h96 hS hap hin z4 z5 z6
          obtain ⟨M', k1, k2, k3, k4⟩ := hih l6'
          exact ⟨M', hl6 _ (hst _ _ k1), Fr_t f3 k2 (by decide), G2_t g3 k3, k4⟩
        · rw [if_neg c2]
          obtain ⟨M1, a1, a2, a3, a4⟩ := d_putBit (b := b) (v := 0) h (by omega) (by omega) (Or.inl rfl)
          have hba := d_byteAt (b := b) (M := M1) (S := S) (n := n) (i := i) (ap := ap) h96 (by rw [a2 48 (by decide)]; exact hS) hap hin
          have hsb : 0 ≤ sA S ap i := by
            unfold sA
            split
            · unfold ds
              split
              · exact (hS 0 (by omega)).2.1
              · omega
            · exact (hS i hin).2.1
          obtain ⟨M2, b1, b2, b3, b4⟩ := d_low (b := b) (v := sA S ap i) (n := 8) a4 (by simp; omega) (by right; simp; omega) (by decide) hsb
          have f3 : Fr [40, 50] M M2 := Fr_t a2 b2 (by decide)
          have g3 : G2 M M2 := G2_t a3 b3
          have hst : ∀ q (l6 : Option iV), irun none zp_123 2 [some (iP 40), some (iI ap), some (iI ((i + 1 : Nat) : Int)), some (iI (far (sA S ap) n i : Int)), some (iI (fln (sA S ap) n i : Int)), some (iI ((min 16 i + 1 : Nat) : Int)), l6] [] (SH b) M2 0 0 q → irun none zp_123 61 [some (iP 40), some (iI ap), some (iI (i : Int)), some (iI (far (sA S ap) n i : Int)), some (iI (fln (sA S ap) n i : Int)), some (iI ((min 16 i + 1 : Nat) : Int)), l6] [] (SH b) M 0 0 q := by
            intro q l6 hq
            rw [show ((i + 1 : Nat) : Int) = (i : Int) + (fln (sA S ap) n i : Int) by omega] at hq
            refine i_aload_n rfl rfl ?_
            refine i_iload_n rfl rfl ?_
            refine i_if_le_t rfl (by first | omega | assumption) ?_
            refine i_iconst (n := 0) rfl (by unfold iR; omega) ?_
            -- at 71
            refine i_call (T := (118, zp_118)) rfl rfl (a1) rfl rfl rfl rfl rfl rfl rfl ?_
            try dsimp only
            refine i_iload_n rfl rfl ?_
            refine i_if_le_t rfl (by first | omega | assumption) ?_
            refine i_aload_n rfl rfl ?_
            refine i_aload_n rfl rfl ?_
            refine i_iload_n rfl rfl ?_
            refine i_iload_n rfl rfl ?_
            -- at 102
            refine i_call (T := (120, zp_120)) rfl rfl (hba) rfl rfl rfl rfl rfl rfl rfl ?_
            try dsimp only
            show irun none zp_123 105 _ (iI (sA S ap i) :: _) _ _ 0 0 _
            refine i_bipush (n := 8) rfl (by unfold iR; omega) (by decide) ?_
            -- at 107
            refine i_call (T := (119, zp_119)) rfl rfl (b1) rfl rfl rfl rfl rfl rfl rfl ?_
            try dsimp only
            refine i_iload_n rfl rfl ?_
            refine i_iload rfl rfl ?_
            refine i_iadd rfl (by unfold iR; omega) ?_
            refine i_istore_n rfl (Nat.le_of_ble_eq_true rfl) rfl ?_
            refine i_goto rfl ?_
            -- at 2
            exact hq
          obtain ⟨l6', hl6⟩ : ∃ l6' : Option iV, ∀ q, irun none zp_123 61 [some (iP 40), some (iI ap), some (iI (i : Int)), some (iI (far (sA S ap) n i : Int)), some (iI (fln (sA S ap) n i : Int)), some (iI ((min 16 i + 1 : Nat) : Int)), l6'] [] (SH b) M 0 0 q → irun none zp_123 2 [some (iP 40), some (iI ap), some (iI (i : Int)), l3, l4, l5, l6] [] (SH b) M 0 0 q := d_mtX (b := b) hn h96 hS hap hin z4 z5 z6
          obtain ⟨M', k1, k2, k3, k4⟩ := ih (i + 1) M2 (l ++ [0] ++ vb (sA S ap i) 8) (some (iI (far (sA S ap) n i : Int))) (some (iI (fln (sA S ap) n i : Int))) (some (iI ((min 16 i + 1 : Nat) : Int))) l6' rfl rfl rfl (by omega) (by omega) ((g3 14 (by decide)).trans hn) (by rw [f3 48 (by decide)]; exact hS) b4 (by simp [vb_len]; omega)
          exact ⟨M', hl6 _ (hst _ _ k1), Fr_t f3 k2 (by decide), G2_t g3 k3, k4⟩
      · unfold me
        rw [if_neg hin]
        refine ⟨M, ?_, Fr_r _ _, fun _ _ => rfl, h⟩
        refine i_iload_n rfl rfl ?_
        refine i_aload_n rfl rfl ?_
        refine i_getf rfl rfl rfl rfl (by decide) ?_
        refine i_icmp_ge_t rfl (by first | omega | assumption) ?_
        -- at 118
        exact i_vreturn rfl rfl
  obtain ⟨M', g1, g2⟩ := loop n 0 M [] none none none none rfl rfl rfl (by omega) (by omega) hn hS h (by simp)
  refine ⟨M', ?_, g2⟩
  refine i_iconst (n := 0) rfl (by unfold iR; omega) ?_
  refine i_istore_n rfl (Nat.le_of_ble_eq_true rfl) rfl ?_
  -- at 2
  exact g1
