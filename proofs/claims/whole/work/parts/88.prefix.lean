def tn (B : Nat → Int) : Nat := (nv B 0 7).toNat
def syB (B : Nat → Int) (k : Nat) : Int := nv B (7 + 12 * k) 8
def lnB (B : Nat → Int) (k : Nat) : Int := nv B (7 + 12 * k + 8) 4
def te (B : Nat → Int) (m k : Nat) : Prop := 7 + 12 * (k + 1) ≤ 8 * m ∧ lnB B k ≠ 0 ∧ (k = 0 ∨ syB B (k - 1) < syB B k)
def tab (B : Nat → Int) (m : Nat) : Prop := 7 ≤ 8 * m ∧ 1 ≤ tn B ∧ ∀ k, k < tn B → te B m k
theorem tn_b (B : Nat → Int) : nv B 0 7 = (tn B : Int) ∧ tn B ≤ 127 := by
  have h := nv_b B 0 7
  have h2 : nv B 0 7 < 128 := h.2
  unfold tn
  omega
theorem nv_12 (B : Nat → Int) (k : Nat) : nv B (7 + 12 * k) 12 = syB B k * 16 + lnB B k := nv_add B (7 + 12 * k) 8 4
theorem sl_b (B : Nat → Int) (k : Nat) : (0 ≤ syB B k ∧ syB B k < 256) ∧ 0 ≤ lnB B k ∧ lnB B k < 16 := ⟨nv_b B _ 8, nv_b B _ 4⟩
set_option maxRecDepth 100000 in
theorem c_table {b : Bool} {M : iM} {B : Nat → Int} {m : Nat} (hB : BS M B m 0) (hm : m ≤ 256) : ∃ M', irun none zp_103 0 (i_ent [iP 18, iP 28] 5) [] (SH b) M 0 0 (some (bz (tab B m)), SH b, M') ∧ Fr [18, 19, 20, 28] M M' ∧ (tab B m → M' 18 9 = (tn B : Int) ∧ BS M' B m (7 + 12 * tn B) ∧ ∀ i, i < tn B → M' 19 i = syB B i ∧ M' 20 i = lnB B i) := by
  obtain ⟨t1, t2⟩ := tn_b B
  have loop : ∀ (c k : Nat) (M1 : iM) (l4 : Option iV), k + c = tn B → 7 + 12 * k ≤ 8 * m → 1 ≤ tn B → Fr [18, 19, 20, 28] M M1 → BS M1 B m (7 + 12 * k) → (∀ i, i < k → M1 19 i = syB B i ∧ M1 20 i = lnB B i) → (∀ i, i < k → te B m i) →
      ∃ M', irun none zp_103 27 [some (iP 18), some (iP 28), some (iI (tn B : Int)), some (iI (k : Int)), l4] [] (SH b) M1 0 0 (some (bz (tab B m)), SH b, M') ∧ Fr [18, 19, 20, 28] M M' ∧ (tab B m → M' 18 9 = (tn B : Int) ∧ BS M' B m (7 + 12 * tn B) ∧ ∀ i, i < tn B → M' 19 i = syB B i ∧ M' 20 i = lnB B i) := by
    intro c
    induction c with
    | zero =>
      intro k M1 l4 hk hkm h1 f1 b1 h2 h3
      obtain rfl : k = tn B := by omega
      refine ⟨i_st M1 18 9 (tn B : Int), ?_, Fr_st f1 (by decide), fun _ => ⟨rfl, b1, h2⟩⟩
      rw [bz_t (show tab B m from ⟨by omega, h1, h3⟩)]
      refine i_iload_n rfl rfl ?_
      refine i_iload_n rfl rfl ?_
      refine i_icmp_ge_t rfl (by first | omega | assumption) ?_
      refine i_aload_n rfl rfl ?_
      refine i_iload_n rfl rfl ?_
      refine i_puti rfl rfl rfl rfl ?_
      refine i_iconst (n := 1) rfl (by unfold iR; omega) ?_
      -- at 113
      exact i_zreturn rfl rfl (by first | omega | assumption)
    | succ c ih =>
      intro k M1 l4 hk hkm h1 f1 b1 h2 h3
      by_cases h12 : 7 + 12 * (k + 1) ≤ 8 * m
      · have ht := c_take (b := b) (n := 12) b1 hm (by decide) (by omega)
        have e12 := nv_12 B k
        have sb := sl_b B k
        obtain ⟨M2, hM2⟩ : ∃ M2, M2 = i_st (i_st (va_up M1 28 (va_up (M1 28) 2 ((7 + 12 * k + 12 : Nat) : Int))) 19 k (syB B k)) 20 k (lnB B k) := ⟨_, rfl⟩
        have f2 : Fr [18, 19, 20, 28] M M2 := by rw [hM2]; exact Fr_st (Fr_st (Fr_up f1 (by decide)) (by decide)) (by decide)
        have b2 : BS M2 B m (7 + 12 * (k + 1)) := by rw [hM2]; exact ⟨b1.1, rfl, b1.2.2⟩
        have e19 : ∀ i, M2 19 i = va_up (M1 19) k (syB B k) i := fun i => by rw [hM2]; rfl
        have e20 : ∀ i, M2 20 i = va_up (M1 20) k (lnB B k) i := fun i => by rw [hM2]; rfl
        have h22 : ∀ i, i < k + 1 → M2 19 i = syB B i ∧ M2 20 i = lnB B i := by
          intro i hi
          rw [e19, e20]
          by_cases e : i = k
          · rw [e, up_s, up_s]; exact ⟨rfl, rfl⟩
          · rw [up_n e, up_n e]; exact h2 i (by omega)
        have hpre : ∀ q, irun none zp_103 75 [some (iP 18), some (iP 28), some (iI (tn B : Int)), some (iI (k : Int)), some (iI (nv B (7 + 12 * k) 12))] [iI (lnB B k)] (SH b) M2 0 0 q → irun none zp_103 27 [some (iP 18), some (iP 28), some (iI (tn B : Int)), some (iI (k : Int)), l4] [] (SH b) M1 0 0 q := by
          intro q hq
          refine i_iload_n rfl rfl ?_
          refine i_iload_n rfl rfl ?_
          refine i_icmp_ge_f rfl (by first | omega | assumption) ?_
          refine i_aload_n rfl rfl ?_
          refine i_bipush (n := 12) rfl (by unfold iR; omega) (by decide) ?_
          -- at 35
          refine i_call (T := (81, zp_81)) rfl rfl (ht) rfl rfl rfl rfl rfl rfl rfl ?_
          try dsimp only
          show irun none zp_103 38 _ (iI (nv B (7 + 12 * k) 12) :: _) _ _ 0 0 _
          refine i_istore rfl (Nat.le_of_ble_eq_true rfl) rfl ?_
          refine i_iload rfl rfl ?_
          refine i_iconst (n := -1) rfl (by unfold iR; omega) ?_
          refine i_icmp_ne_t rfl (by first | omega | assumption) ?_
          refine i_aload_n rfl rfl ?_
          refine i_getr rfl rfl rfl rfl (by decide) rfl ?_
          refine i_iload_n rfl rfl ?_
          refine i_iload rfl rfl ?_
          refine i_iconst (n := 4) rfl (by unfold iR; omega) ?_
          refine i_ishr rfl (by first | omega | assumption) (by first | omega | assumption) ?_
          -- at 57
          show irun none zp_103 57 _ (iI (nv B (7 + 12 * k) 12 / 16) :: _) _ _ 0 0 _
          rw [show nv B (7 + 12 * k) 12 / 16 = syB B k by omega]
          refine i_iast rfl rfl (by first | omega | assumption) (by first | omega | assumption) ?_
          refine i_aload_n rfl rfl ?_
          refine i_getr rfl rfl rfl rfl (by decide) rfl ?_
          refine i_iload_n rfl rfl ?_
          refine i_iload rfl rfl ?_
          refine i_bipush (n := 15) rfl (by unfold iR; omega) (by decide) ?_
          refine i_iand 4 rfl (by decide) (by decide) ?_
          -- at 68
          show irun none zp_103 68 _ (iI (nv B (7 + 12 * k) 12 % 16) :: _) _ _ 0 0 _
          rw [show nv B (7 + 12 * k) 12 % 16 = lnB B k by omega, show (k : Int).toNat = k by omega]
          refine i_iast rfl rfl (by first | omega | assumption) (by first | omega | assumption) ?_
          refine i_aload_n rfl rfl ?_
          refine i_getr rfl rfl rfl rfl (by decide) rfl ?_
          refine i_iload_n rfl rfl ?_
          refine i_iald rfl rfl (by first | omega | assumption) (by first | omega | assumption) (by decide) ?_
          -- at 75
          rw [show (k : Int).toNat = k by omega, ← hM2, e20, up_s]
          exact hq
        by_cases hte : te B m k
        · obtain ⟨M', g1, g2⟩ := ih (k + 1) M2 (some (iI (nv B (7 + 12 * k) 12))) (by omega) h12 h1 f2 b2 h22 (fun i hi => by
            by_cases e : i = k
            · rw [e]; exact hte
            · exact h3 i (by omega))
          refine ⟨M', hpre _ ?_, g2⟩
          obtain ⟨-, hl0, hs⟩ := hte
          by_cases k0 : k = 0
          · refine i_if_eq_f rfl (by first | omega | assumption) ?_
            refine i_iload_n rfl rfl ?_
            refine i_if_le_t rfl (by first | omega | assumption) ?_
            refine i_iinc rfl rfl (by unfold iR; omega) (Nat.le_of_ble_eq_true rfl) rfl ?_
            refine i_goto rfl ?_
            -- at 27
            exact g1
          · have hs := hs.resolve_left k0
            refine i_if_eq_f rfl (by first | omega | assumption) ?_
            refine i_iload_n rfl rfl ?_
            refine i_if_le_f rfl (by first | omega | assumption) ?_
            refine i_aload_n rfl rfl ?_
            refine i_getr rfl rfl rfl rfl (by decide) rfl ?_
            refine i_iload_n rfl rfl ?_
            refine i_iald rfl rfl (by first | omega | assumption) (by first | omega | assumption) (by decide) ?_
            -- at 88
            rw [show (k : Int).toNat = k by omega, e19, up_s]
            refine i_aload_n rfl rfl ?_
            refine i_getr rfl rfl rfl rfl (by decide) rfl ?_
            refine i_iload_n rfl rfl ?_
            refine i_iconst (n := 1) rfl (by unfold iR; omega) ?_
            refine i_isub rfl (by unfold iR; omega) ?_
            refine i_iald rfl rfl (by first | omega | assumption) (by first | omega | assumption) (by decide) ?_
            -- at 96
            rw [show ((k : Int) - 1).toNat = k - 1 by omega, (h22 (k - 1) (by omega)).1]
            refine i_icmp_gt_t rfl (by first | omega | assumption) ?_
            refine i_iinc rfl rfl (by unfold iR; omega) (Nat.le_of_ble_eq_true rfl) rfl ?_
            refine i_goto rfl ?_
            -- at 27
            exact g1
        · have nt : ¬ tab B m := fun q => hte (q.2.2 k (by omega))
          refine ⟨M2, hpre _ ?_, f2, fun q => absurd q nt⟩
          rw [bz_f nt]
          by_cases hl0 : lnB B k = 0
          · refine i_if_eq_t rfl (by first | omega | assumption) ?_
            refine i_iconst (n := 0) rfl (by unfold iR; omega) ?_
            -- at 100
            exact i_zreturn rfl rfl (by first | omega | assumption)
          · have k0 : ¬ k = 0 := fun q => hte ⟨h12, hl0, Or.inl q⟩
            have hs : ¬ syB B (k - 1) < syB B k := fun q => hte ⟨h12, hl0, Or.inr q⟩
            refine i_if_eq_f rfl (by first | omega | assumption) ?_
            refine i_iload_n rfl rfl ?_
            refine i_if_le_f rfl (by first | omega | assumption) ?_
            refine i_aload_n rfl rfl ?_
            refine i_getr rfl rfl rfl rfl (by decide) rfl ?_
            refine i_iload_n rfl rfl ?_
            refine i_iald rfl rfl (by first | omega | assumption) (by first | omega | assumption) (by decide) ?_
            -- at 88
            rw [show (k : Int).toNat = k by omega, e19, up_s]
            refine i_aload_n rfl rfl ?_
            refine i_getr rfl rfl rfl rfl (by decide) rfl ?_
            refine i_iload_n rfl rfl ?_
            refine i_iconst (n := 1) rfl (by unfold iR; omega) ?_
            refine i_isub rfl (by unfold iR; omega) ?_
            refine i_iald rfl rfl (by first | omega | assumption) (by first | omega | assumption) (by decide) ?_
            -- at 96
            rw [show ((k : Int) - 1).toNat = k - 1 by omega, (h22 (k - 1) (by omega)).1]
            refine i_icmp_gt_f rfl (by first | omega | assumption) ?_
            refine i_iconst (n := 0) rfl (by unfold iR; omega) ?_
            -- at 100
            exact i_zreturn rfl rfl (by first | omega | assumption)
      · have nt : ¬ tab B m := fun q => h12 (q.2.2 k (by omega)).1
        have ht := c_takeF (b := b) (n := 12) b1 hm hkm (by decide) (by omega)
        refine ⟨M1, ?_, f1, fun q => absurd q nt⟩
        rw [bz_f nt]
        refine i_iload_n rfl rfl ?_
        refine i_iload_n rfl rfl ?_
        refine i_icmp_ge_f rfl (by first | omega | assumption) ?_
        refine i_aload_n rfl rfl ?_
        refine i_bipush (n := 12) rfl (by unfold iR; omega) (by decide) ?_
        -- at 35
        refine i_call (T := (81, zp_81)) rfl rfl (ht) rfl rfl rfl rfl rfl rfl rfl ?_
        try dsimp only
        show irun none zp_103 38 _ (iI (-1) :: _) _ _ 0 0 _
        refine i_istore rfl (Nat.le_of_ble_eq_true rfl) rfl ?_
        refine i_iload rfl rfl ?_
        refine i_iconst (n := -1) rfl (by unfold iR; omega) ?_
        refine i_icmp_ne_f rfl (by first | omega | assumption) ?_
        refine i_iconst (n := 0) rfl (by unfold iR; omega) ?_
        -- at 47
        exact i_zreturn rfl rfl (by first | omega | assumption)
  have hB1 : BS (i_st M 18 9 0) B m 0 := hB
  by_cases h7 : 7 ≤ 8 * m
  · have ht := c_take (b := b) (n := 7) hB1 hm (by decide) (by omega)
    rw [t1] at ht
    have b1 := BS_tk (n := 7) hB1
    by_cases h1 : 1 ≤ tn B
    · obtain ⟨M', g1, g2⟩ := loop (tn B) 0 _ none (by omega) (by omega) h1 (Fr_up (Fr_st (Fr_r _ _) (by decide)) (by decide)) b1 (fun i hi => by omega) (fun i hi => by omega)
      refine ⟨M', ?_, g2⟩
      refine i_aload_n rfl rfl ?_
      refine i_iconst (n := 0) rfl (by unfold iR; omega) ?_
      refine i_puti rfl rfl rfl rfl ?_
      refine i_aload_n rfl rfl ?_
      refine i_bipush (n := 7) rfl (by unfold iR; omega) (by decide) ?_
      -- at 8
      refine i_call (T := (81, zp_81)) rfl rfl (ht) rfl rfl rfl rfl rfl rfl rfl ?_
      try dsimp only
      show irun none zp_103 11 _ (iI ((tn B : Int)) :: _) _ _ 0 0 _
      refine i_istore_n rfl (Nat.le_of_ble_eq_true rfl) rfl ?_
      refine i_iload_n rfl rfl ?_
      refine i_iconst (n := 1) rfl (by unfold iR; omega) ?_
      refine i_icmp_lt_f rfl (by first | omega | assumption) ?_
      refine i_iload_n rfl rfl ?_
      refine i_bipush (n := 127) rfl (by unfold iR; omega) (by decide) ?_
      refine i_icmp_le_t rfl (by first | omega | assumption) ?_
      refine i_iconst (n := 0) rfl (by unfold iR; omega) ?_
      refine i_istore_n rfl (Nat.le_of_ble_eq_true rfl) rfl ?_
      -- at 27
      exact g1
    · have nt : ¬ tab B m := fun q => h1 q.2.1
      refine ⟨va_up (i_st M 18 9 0) 28 (va_up ((i_st M 18 9 0) 28) 2 ((0 + 7 : Nat) : Int)), ?_, Fr_up (Fr_st (Fr_r _ _) (by decide)) (by decide), fun q => absurd q nt⟩
      rw [bz_f nt]
      refine i_aload_n rfl rfl ?_
      refine i_iconst (n := 0) rfl (by unfold iR; omega) ?_
      refine i_puti rfl rfl rfl rfl ?_
      refine i_aload_n rfl rfl ?_
      refine i_bipush (n := 7) rfl (by unfold iR; omega) (by decide) ?_
      -- at 8
      refine i_call (T := (81, zp_81)) rfl rfl (ht) rfl rfl rfl rfl rfl rfl rfl ?_
      try dsimp only
      show irun none zp_103 11 _ (iI ((tn B : Int)) :: _) _ _ 0 0 _
      refine i_istore_n rfl (Nat.le_of_ble_eq_true rfl) rfl ?_
      refine i_iload_n rfl rfl ?_
      refine i_iconst (n := 1) rfl (by unfold iR; omega) ?_
      refine i_icmp_lt_t rfl (by first | omega | assumption) ?_
      refine i_iconst (n := 0) rfl (by unfold iR; omega) ?_
      -- at 24
      exact i_zreturn rfl rfl (by first | omega | assumption)
  · have nt : ¬ tab B m := fun q => h7 q.1
    have ht := c_takeF (b := b) (n := 7) hB1 hm (by omega) (by decide) (by omega)
    refine ⟨i_st M 18 9 0, ?_, Fr_st (Fr_r _ _) (by decide), fun q => absurd q nt⟩
    rw [bz_f nt]
    refine i_aload_n rfl rfl ?_
    refine i_iconst (n := 0) rfl (by unfold iR; omega) ?_
    refine i_puti rfl rfl rfl rfl ?_
    refine i_aload_n rfl rfl ?_
    refine i_bipush (n := 7) rfl (by unfold iR; omega) (by decide) ?_
    -- at 8
    refine i_call (T := (81, zp_81)) rfl rfl (ht) rfl rfl rfl rfl rfl rfl rfl ?_
    try dsimp only
    show irun none zp_103 11 _ (iI (-1) :: _) _ _ 0 0 _
    refine i_istore_n rfl (Nat.le_of_ble_eq_true rfl) rfl ?_
    refine i_iload_n rfl rfl ?_
    refine i_iconst (n := 1) rfl (by unfold iR; omega) ?_
    refine i_icmp_lt_t rfl (by first | omega | assumption) ?_
    refine i_iconst (n := 0) rfl (by unfold iR; omega) ?_
    -- at 24
    exact i_zreturn rfl rfl (by first | omega | assumption)
/-- the symbol of a length and a code among the first -/
def fsN (L : Nat → Int) (n : Nat) (l v : Int) : Nat → Int
  | 0 => -1
  | k + 1 => if L k = l ∧ cd L n k = v then (k : Int) else fsN L n l v k
theorem fs_spec {L : Nat → Int} {n l : Nat} {v : Int} : ∀ j, (∃ k, k < j ∧ L k = ((l + 1 : Nat) : Int) ∧ (rkN L ((l + 1 : Nat) : Int) k : Int) = v - 2 * fcN L n l ∧ fsN L n ((l + 1 : Nat) : Int) v j = (k : Int) ∧ 0 ≤ v - 2 * fcN L n l ∧ v - 2 * fcN L n l < rkN L ((l + 1 : Nat) : Int) j) ∨ (fsN L n ((l + 1 : Nat) : Int) v j = -1 ∧ ¬ (0 ≤ v - 2 * fcN L n l ∧ v - 2 * fcN L n l < rkN L ((l + 1 : Nat) : Int) j)) := by
  intro j
  induction j with
  | zero =>
    right
    refine ⟨rfl, ?_⟩
    show ¬ (_ ∧ _ < ((0 : Nat) : Int))
    omega
  | succ j ih =>
    by_cases hL : L j = ((l + 1 : Nat) : Int)
    · have er : rkN L ((l + 1 : Nat) : Int) (j + 1) = rkN L ((l + 1 : Nat) : Int) j + 1 := by
        show _ + (if _ then 1 else 0) = _
        rw [if_pos hL]
      have ec : cd L n j = 2 * fcN L n l + rkN L ((l + 1 : Nat) : Int) j := by
        unfold cd
        rw [hL, show ((l + 1 : Nat) : Int).toNat - 1 = l by omega]
      by_cases hv : cd L n j = v
      · left
        refine ⟨j, by omega, hL, by omega, ?_, by omega, by omega⟩
        show (if _ then _ else _) = _
        rw [if_pos ⟨hL, hv⟩]
      · have ef : fsN L n ((l + 1 : Nat) : Int) v (j + 1) = fsN L n ((l + 1 : Nat) : Int) v j := by
          show (if _ then _ else _) = _
          rw [if_neg (fun q => hv q.2)]
        rw [ef, er]
        rcases ih with ⟨k, k1, k2, k3, k4, k5, k6⟩ | ⟨k1, k2⟩
        · exact Or.inl ⟨k, by omega, k2, k3, k4, k5, by omega⟩
        · exact Or.inr ⟨k1, by omega⟩
    · have er : rkN L ((l + 1 : Nat) : Int) (j + 1) = rkN L ((l + 1 : Nat) : Int) j := by
        show _ + (if _ then 1 else 0) = _
        rw [if_neg hL]
        rfl
      have ef : fsN L n ((l + 1 : Nat) : Int) v (j + 1) = fsN L n ((l + 1 : Nat) : Int) v j := by
        show (if _ then _ else _) = _
        rw [if_neg (fun q => hL q.1)]
      rw [ef, er]
      rcases ih with ⟨k, k1, k2⟩ | k1
      · exact Or.inl ⟨k, by omega, k2⟩
      · exact Or.inr k1
def syS (B : Nat → Int) (m : Nat) (L : Nat → Int) (n : Nat) : Nat → Nat → Int → Nat → Option (Nat × Nat)
  | 0, _, _, _ => none
  | c + 1, l, v, a => if a < 8 * m then (if 0 ≤ fsN L n ((l + 1 : Nat) : Int) (2 * v + bt B a) n then some ((fsN L n ((l + 1 : Nat) : Int) (2 * v + bt B a) n).toNat, a + 1) else syS B m L n c (l + 1) (2 * v + bt B a) (a + 1)) else none
def sN (o : Option (Nat × Nat)) : Int := match o with
  | some s => (s.1 : Int)
  | none => -1
/-- the class's tables of codes -/
def TF (M : iM) (L : Nat → Int) (n : Nat) : Prop := (∀ l, l < 15 → M 25 (l + 1) = (frN L n l : Int) ∧ M 26 (l + 1) = 2 * fcN L n l) ∧ M 25 16 = (frN L n 15 : Int) ∧ ∀ i, i < n → 1 ≤ L i → L i ≤ 15 → M 24 (frN L n ((L i).toNat - 1) + rkN L (L i) i) = (i : Int)
set_option maxRecDepth 100000 in
theorem c_symL {b : Bool} {B L : Nat → Int} {m n : Nat} (hm : m ≤ 256) (h127 : n ≤ 127) : ∀ (c l : Nat) (v : Int) (a : Nat) (l4 l5 : Option iV) (M : iM), i_free [some (iP 18), some (iP 28), some (iI v), some (iI ((l + 1 : Nat) : Int)), l4, l5] 5 = true → l + c = 15 → 0 ≤ v → v < 2 ^ l → a ≤ 8 * m → BS M B m a → TF M L n →
    ∃ M', irun none zp_104 4 [some (iP 18), some (iP 28), some (iI v), some (iI ((l + 1 : Nat) : Int)), l4, l5] [] (SH b) M 0 0 (some (sN (syS B m L n c l v a)), SH b, M') ∧ Fr [28] M M' ∧ ∀ s, syS B m L n c l v a = some s → BS M' B m s.2 ∧ s.2 ≤ 8 * m ∧ s.1 < n := by
  intro c
  induction c with
  | zero =>
    intro l v a l4 l5 M z5 hl hv1 hv2 ha hB hT
    obtain rfl : l = 15 := by omega
    refine ⟨M, ?_, Fr_r _ _, fun s hs => by cases hs⟩
    refine i_iload_n rfl rfl ?_
    refine i_bipush (n := 15) rfl (by unfold iR; omega) (by decide) ?_
    refine i_icmp_gt_t rfl (by first | omega | assumption) ?_
    refine i_iconst (n := -1) rfl (by unfold iR; omega) ?_
    -- at 89
    exact i_ireturn rfl rfl
  | succ c ih =>
    intro l v a l4 l5 M z5 hl hv1 hv2 ha hB hT
    have p2 := p2_c l (by omega)
    by_cases h : a < 8 * m
    · have ht := c_take (b := b) (n := 1) hB hm (by decide) (by omega)
      have vb := bt_b B a
      rw [show nv B a 1 = 2 * 0 + bt B a from rfl, show 2 * 0 + bt B a = bt B a by omega] at ht
      have hB1 := BS_tk (n := 1) hB
      have fb := fcN_b (L := L) h127 l
      have t25 := (hT.1 l (by omega)).1
      have t26 := (hT.1 l (by omega)).2
      have t25b : M 25 (l + 1 + 1) = (frN L n (l + 1) : Int) := by
        by_cases e : l = 14
        · rw [e]; exact hT.2.1
        · exact (hT.1 (l + 1) (by omega)).1
      have efr : frN L n (l + 1) = frN L n l + rkN L ((l + 1 : Nat) : Int) n := rfl
      have frb := frN_b L (l + 1) n
      have hpre : ∀ q, irun none zp_104 44 [some (iP 18), some (iP 28), some (iI (2 * v + bt B a)), some (iI ((l + 1 : Nat) : Int)), some (iI (bt B a)), some (iI (2 * v + bt B a - 2 * fcN L n l))] [iI (2 * v + bt B a - 2 * fcN L n l)] (SH b) (va_up M 28 (va_up (M 28) 2 ((a + 1 : Nat) : Int))) 0 0 q → irun none zp_104 4 [some (iP 18), some (iP 28), some (iI v), some (iI ((l + 1 : Nat) : Int)), l4, l5] [] (SH b) M 0 0 q := by
        intro q hq
        refine i_iload_n rfl rfl ?_
        refine i_bipush (n := 15) rfl (by unfold iR; omega) (by decide) ?_
        refine i_icmp_gt_f rfl (by first | omega | assumption) ?_
        refine i_aload_n rfl rfl ?_
        refine i_iconst (n := 1) rfl (by unfold iR; omega) ?_
        -- at 12
        refine i_call (T := (81, zp_81)) rfl rfl (ht) rfl rfl rfl rfl rfl rfl rfl ?_
        try dsimp only
        show irun none zp_104 15 _ (iI (bt B a) :: _) _ _ 0 0 _
        refine i_istore rfl (Nat.le_of_ble_eq_true rfl) rfl ?_
        refine i_iload rfl rfl ?_
        refine i_iconst (n := -1) rfl (by unfold iR; omega) ?_
        refine i_icmp_ne_t rfl (by first | omega | assumption) ?_
        refine i_iconst (n := 2) rfl (by unfold iR; omega) ?_
        refine i_iload_n rfl rfl ?_
        refine i_imul rfl (by unfold iR; omega) ?_
        refine i_iload rfl rfl ?_
        refine i_iadd rfl (by unfold iR; omega) ?_
        refine i_istore_n rfl (Nat.le_of_ble_eq_true rfl) rfl ?_
        refine i_iload_n rfl rfl ?_
        refine i_aload_n rfl rfl ?_
        refine i_getr rfl rfl rfl rfl (by decide) rfl ?_
        refine i_iload_n rfl rfl ?_
        refine i_iald rfl rfl (by first | omega | assumption) (by first | omega | assumption) (by decide) ?_
        -- at 39
        rw [show ((l + 1 : Nat) : Int).toNat = l + 1 by omega]
        show irun none zp_104 39 _ (iI (M 26 (l + 1)) :: _) _ _ 0 0 _
        rw [t26]
        refine i_isub rfl (by unfold iR; omega) ?_
        refine i_istore rfl (Nat.le_of_ble_eq_true rfl) rfl ?_
        refine i_iload rfl rfl ?_
        -- at 44
        exact hq
      rcases fs_spec (L := L) (n := n) (l := l) (v := 2 * v + bt B a) n with ⟨k, k1, k2, k3, k4, k5, k6⟩ | ⟨k1, k2⟩
      · have es : syS B m L n (c + 1) l v a = some (k, a + 1) := by
          unfold syS
          rw [if_pos h, k4, if_pos (by omega), show (k : Int).toNat = k by omega]
        have t24 := hT.2.2 k k1 (by omega) (by omega)
        rw [k2, show ((l + 1 : Nat) : Int).toNat - 1 = l by omega] at t24
        rw [es]
        refine ⟨va_up M 28 (va_up (M 28) 2 ((a + 1 : Nat) : Int)), hpre _ ?_, Fr_up (Fr_r _ _) (by decide), fun s hs => ?_⟩
        · refine i_if_lt_f rfl (by first | omega | assumption) ?_
          refine i_iload rfl rfl ?_
          refine i_aload_n rfl rfl ?_
          refine i_getr rfl rfl rfl rfl (by decide) rfl ?_
          refine i_iload_n rfl rfl ?_
          refine i_iconst (n := 1) rfl (by unfold iR; omega) ?_
          refine i_iadd rfl (by unfold iR; omega) ?_
          refine i_iald rfl rfl (by first | omega | assumption) (by first | omega | assumption) (by decide) ?_
          -- at 57
          rw [show (((l + 1 : Nat) : Int) + 1).toNat = l + 1 + 1 by omega]
          show irun none zp_104 57 _ (iI (M 25 (l + 1 + 1)) :: _) _ _ 0 0 _
          rw [t25b]
          refine i_aload_n rfl rfl ?_
          refine i_getr rfl rfl rfl rfl (by decide) rfl ?_
          refine i_iload_n rfl rfl ?_
          refine i_iald rfl rfl (by first | omega | assumption) (by first | omega | assumption) (by decide) ?_
          -- at 63
          rw [show ((l + 1 : Nat) : Int).toNat = l + 1 by omega]
          show irun none zp_104 63 _ (iI (M 25 (l + 1)) :: _) _ _ 0 0 _
          rw [t25]
          refine i_isub rfl (by unfold iR; omega) ?_
          refine i_icmp_ge_f rfl (by first | omega | assumption) ?_
          refine i_aload_n rfl rfl ?_
          refine i_getr rfl rfl rfl rfl (by decide) rfl ?_
          refine i_aload_n rfl rfl ?_
          refine i_getr rfl rfl rfl rfl (by decide) rfl ?_
          refine i_iload_n rfl rfl ?_
          refine i_iald rfl rfl (by first | omega | assumption) (by first | omega | assumption) (by decide) ?_
          -- at 77
          rw [show ((l + 1 : Nat) : Int).toNat = l + 1 by omega]
          show irun none zp_104 77 _ (iI (M 25 (l + 1)) :: _) _ _ 0 0 _
          rw [t25]
          refine i_iload rfl rfl ?_
          refine i_iadd rfl (by unfold iR; omega) ?_
          refine i_iald rfl rfl (by first | omega | assumption) (by first | omega | assumption) (by decide) ?_
          -- at 81
          rw [show ((frN L n l : Int) + (2 * v + bt B a - 2 * fcN L n l)).toNat = frN L n l + rkN L ((l + 1 : Nat) : Int) k by omega]
          show irun none zp_104 81 _ (iI (M 24 (frN L n l + rkN L ((l + 1 : Nat) : Int) k)) :: _) _ _ 0 0 _
          rw [t24]
          exact i_ireturn rfl rfl
        · cases hs
          exact ⟨hB1, by show a + 1 ≤ _; omega, k1⟩
      · have es : syS B m L n (c + 1) l v a = syS B m L n c (l + 1) (2 * v + bt B a) (a + 1) := by
          conv => lhs; unfold syS
          rw [if_pos h, k1, if_neg (by omega)]
        rw [es]
        obtain ⟨M', g1, g2, g3⟩ := ih (l + 1) (2 * v + bt B a) (a + 1) (some (iI (bt B a))) (some (iI (2 * v + bt B a - 2 * fcN L n l))) (va_up M 28 (va_up (M 28) 2 ((a + 1 : Nat) : Int))) rfl (by omega) (by omega) (by rw [p2_s]; omega) (by omega) hB1 hT
        refine ⟨M', hpre _ ?_, Fr_t (Fr_up (Fr_r _ _) (by decide)) g2 (by decide), g3⟩
        by_cases c0 : 2 * v + bt B a - 2 * fcN L n l < 0
        · refine i_if_lt_t rfl (by first | omega | assumption) ?_
          refine i_iinc rfl rfl (by unfold iR; omega) (Nat.le_of_ble_eq_true rfl) rfl ?_
          refine i_goto rfl ?_
          -- at 4
          exact g1
        · refine i_if_lt_f rfl (by first | omega | assumption) ?_
          refine i_iload rfl rfl ?_
          refine i_aload_n rfl rfl ?_
          refine i_getr rfl rfl rfl rfl (by decide) rfl ?_
          refine i_iload_n rfl rfl ?_
          refine i_iconst (n := 1) rfl (by unfold iR; omega) ?_
          refine i_iadd rfl (by unfold iR; omega) ?_
          refine i_iald rfl rfl (by first | omega | assumption) (by first | omega | assumption) (by decide) ?_
          -- at 57
          rw [show (((l + 1 : Nat) : Int) + 1).toNat = l + 1 + 1 by omega]
          show irun none zp_104 57 _ (iI (M 25 (l + 1 + 1)) :: _) _ _ 0 0 _
          rw [t25b]
          refine i_aload_n rfl rfl ?_
          refine i_getr rfl rfl rfl rfl (by decide) rfl ?_
          refine i_iload_n rfl rfl ?_
          refine i_iald rfl rfl (by first | omega | assumption) (by first | omega | assumption) (by decide) ?_
          -- at 63
          rw [show ((l + 1 : Nat) : Int).toNat = l + 1 by omega]
          show irun none zp_104 63 _ (iI (M 25 (l + 1)) :: _) _ _ 0 0 _
          rw [t25]
          refine i_isub rfl (by unfold iR; omega) ?_
          refine i_icmp_ge_t rfl (by first | omega | assumption) ?_
          refine i_iinc rfl rfl (by unfold iR; omega) (Nat.le_of_ble_eq_true rfl) rfl ?_
          refine i_goto rfl ?_
          -- at 4
          exact g1
    · have es : syS B m L n (c + 1) l v a = none := by
        unfold syS
        rw [if_neg h]
      rw [es]
      have ht := c_takeF (b := b) (n := 1) hB hm ha (by decide) (by omega)
      refine ⟨M, ?_, Fr_r _ _, fun s hs => by cases hs⟩
      refine i_iload_n rfl rfl ?_
      refine i_bipush (n := 15) rfl (by unfold iR; omega) (by decide) ?_
      refine i_icmp_gt_f rfl (by first | omega | assumption) ?_
      refine i_aload_n rfl rfl ?_
      refine i_iconst (n := 1) rfl (by unfold iR; omega) ?_
      -- at 12
      refine i_call (T := (81, zp_81)) rfl rfl (ht) rfl rfl rfl rfl rfl rfl rfl ?_
      try dsimp only
      show irun none zp_104 15 _ (iI (-1) :: _) _ _ 0 0 _
      refine i_istore rfl (Nat.le_of_ble_eq_true rfl) rfl ?_
      refine i_iload rfl rfl ?_
      refine i_iconst (n := -1) rfl (by unfold iR; omega) ?_
      refine i_icmp_ne_f rfl (by first | omega | assumption) ?_
      refine i_iconst (n := -1) rfl (by unfold iR; omega) ?_
      -- at 24
      exact i_ireturn rfl rfl
def pdN (B : Nat → Int) (m all : Nat) (L : Nat → Int) (n : Nat) (S : Nat → Int) : Nat → Nat → Nat → (Nat → Int) → Option (Nat → Int)
  | 0, i, _, R => if i < all then none else some R
  | c + 1, i, a, R => if i < all then (match syS B m L n 15 0 0 a with
    | none => none
    | some s => pdN B m all L n S c (i + 1) s.2 (va_up R i (S s.1))) else some R
theorem pdN_e {B L S : Nat → Int} {m all n c i a : Nat} {R : Nat → Int} (h : ¬ i < all) : pdN B m all L n S c i a R = some R := by
  cases c <;> unfold pdN <;> rw [if_neg h]
theorem pdN_n {B L S : Nat → Int} {m all n c i a : Nat} {R : Nat → Int} (h : i < all) (h2 : syS B m L n 15 0 0 a = none) : pdN B m all L n S (c + 1) i a R = none := by
  unfold pdN
  rw [if_pos h, h2]
theorem pdN_s {B L S : Nat → Int} {m all n c i a k a' : Nat} {R : Nat → Int} (h : i < all) (h2 : syS B m L n 15 0 0 a = some (k, a')) : pdN B m all L n S (c + 1) i a R = pdN B m all L n S c (i + 1) a' (va_up R i (S k)) := by
  conv => lhs; unfold pdN
  rw [if_pos h, h2]
noncomputable def pfx (B : Nat → Int) (m all : Nat) : Option (Nat → Int) := @ite _ (tab B m) (Classical.propDecidable _) (pdN B m all (lnB B) (tn B) (syB B) all 0 (7 + 12 * tn B) (fun _ => 0)) none
set_option maxRecDepth 100000 in
theorem c_pdL {b : Bool} {B L S : Nat → Int} {m n all : Nat} (hm : m ≤ 256) (h127 : n ≤ 127) (hall : all ≤ 255) (hS : ∀ k, k < n → 0 ≤ S k ∧ S k < 256) : ∀ (c i a : Nat) (R : Nat → Int) (l5 : Option iV) (M : iM), all ≤ i + c → i ≤ all → a ≤ 8 * m → BS M B m a → TF M L n → (∀ k, k < n → M 19 k = S k) → (∀ j, j < i → M 31 j = R j ∧ 0 ≤ R j ∧ R j < 256) →
    ∃ M', irun none zp_102 17 [some (iP 18), some (iP 28), some (iP 31), some (iI (all : Int)), some (iI (i : Int)), l5] [] (SH b) M 0 0 (some (ob (pdN B m all L n S c i a R)), SH b, M') ∧ Fr [28, 31] M M' ∧ ∀ R', pdN B m all L n S c i a R = some R' → ∀ j, j < all → M' 31 j = R' j ∧ 0 ≤ R' j ∧ R' j < 256 := by
  have done : ∀ (c i a : Nat) (R : Nat → Int) (l5 : Option iV) (M : iM), ¬ i < all → i ≤ all → (∀ j, j < i → M 31 j = R j ∧ 0 ≤ R j ∧ R j < 256) → ∃ M', irun none zp_102 17 [some (iP 18), some (iP 28), some (iP 31), some (iI (all : Int)), some (iI (i : Int)), l5] [] (SH b) M 0 0 (some (ob (pdN B m all L n S c i a R)), SH b, M') ∧ Fr [28, 31] M M' ∧ ∀ R', pdN B m all L n S c i a R = some R' → ∀ j, j < all → M' 31 j = R' j ∧ 0 ≤ R' j ∧ R' j < 256 := by
    intro c i a R l5 M h1 h2 h3
    rw [pdN_e h1]
    refine ⟨M, ?_, Fr_r _ _, fun R' hR j hj => ?_⟩
    · refine i_iload rfl rfl ?_
      refine i_iload_n rfl rfl ?_
      refine i_icmp_ge_t rfl (by first | omega | assumption) ?_
      refine i_iconst (n := 1) rfl (by unfold iR; omega) ?_
      -- at 56
      exact i_zreturn rfl rfl (by first | omega | assumption)
    · cases hR
      exact h3 j (by omega)
  intro c
  induction c with
  | zero =>
    intro i a R l5 M h1 h2 h3 h4 h5 h6 h7
    exact done 0 i a R l5 M (by omega) h2 h7
  | succ c ih =>
    intro i a R l5 M h1 h2 h3 h4 h5 h6 h7
    by_cases hi : i < all
    · obtain ⟨M1, g1, g2, g3⟩ := c_symL (b := b) (B := B) (L := L) hm h127 15 0 0 a none none M rfl (by omega) (by decide) (by decide) h3 h4 h5
      have hsym : irun none zp_104 0 (i_ent [iP 18, iP 28] 6) [] (SH b) M 0 0 (some (sN (syS B m L n 15 0 0 a)), SH b, M1) := by
        refine i_iconst (n := 0) rfl (by unfold iR; omega) ?_
        refine i_istore_n rfl (Nat.le_of_ble_eq_true rfl) rfl ?_
        refine i_iconst (n := 1) rfl (by unfold iR; omega) ?_
        refine i_istore_n rfl (Nat.le_of_ble_eq_true rfl) rfl ?_
        -- at 4
        exact g1
      rcases hs : syS B m L n 15 0 0 a with _ | ⟨k, a'⟩
      · rw [pdN_n hi hs]
        rw [hs] at hsym
        refine ⟨M1, ?_, Fr_t (Fr_r _ _) g2 (by decide), fun R' hR => by cases hR⟩
        refine i_iload rfl rfl ?_
        refine i_iload_n rfl rfl ?_
        refine i_icmp_ge_f rfl (by first | omega | assumption) ?_
        refine i_aload_n rfl rfl ?_
        refine i_aload_n rfl rfl ?_
        -- at 25
        refine i_call (T := (104, zp_104)) rfl rfl (hsym) rfl rfl rfl rfl rfl rfl rfl ?_
        try dsimp only
        show irun none zp_102 28 _ (iI (-1) :: _) _ _ 0 0 _
        refine i_istore rfl (Nat.le_of_ble_eq_true rfl) rfl ?_
        refine i_iload rfl rfl ?_
        refine i_iconst (n := -1) rfl (by unfold iR; omega) ?_
        refine i_icmp_ne_f rfl (by first | omega | assumption) ?_
        refine i_iconst (n := 0) rfl (by unfold iR; omega) ?_
        -- at 37
        exact i_zreturn rfl rfl (by first | omega | assumption)
      · rw [pdN_s hi hs]
        rw [hs] at hsym
        obtain ⟨p1, p2, p3⟩ := g3 _ hs
        have p3 : k < n := p3
        have e19 : M1 19 k = S k := by rw [g2 19 (by decide)]; exact h6 k p3
        have e31 : M1 31 = M 31 := g2 31 (by decide)
        have hT1 : TF M1 L n := by
          unfold TF
          rw [g2 25 (by decide), g2 26 (by decide), g2 24 (by decide)]
          exact h5
        obtain ⟨M', q1, q2, q3⟩ := ih (i + 1) a' (va_up R i (S k)) (some (iI (k : Int))) (i_st M1 31 i (S k)) (by omega) (by omega) p2 p1 hT1 (fun j hj => by
          show M1 19 j = _
          rw [g2 19 (by decide)]
          exact h6 j hj) (fun j hj => by
          show va_up (M1 31) i (S k) j = _ ∧ _
          by_cases e : j = i
          · rw [e, up_s, up_s]
            exact ⟨rfl, hS k p3⟩
          · rw [up_n e, up_n e, e31]
            exact h7 j (by omega))
        refine ⟨M', ?_, Fr_t (Fr_st (Fr_t (Fr_r _ _) g2 (by decide)) (by decide)) q2 (by decide), q3⟩
        refine i_iload rfl rfl ?_
        refine i_iload_n rfl rfl ?_
        refine i_icmp_ge_f rfl (by first | omega | assumption) ?_
        refine i_aload_n rfl rfl ?_
        refine i_aload_n rfl rfl ?_
        -- at 25
        refine i_call (T := (104, zp_104)) rfl rfl (hsym) rfl rfl rfl rfl rfl rfl rfl ?_
        try dsimp only
        show irun none zp_102 28 _ (iI ((k : Int)) :: _) _ _ 0 0 _
        refine i_istore rfl (Nat.le_of_ble_eq_true rfl) rfl ?_
        refine i_iload rfl rfl ?_
        refine i_iconst (n := -1) rfl (by unfold iR; omega) ?_
        refine i_icmp_ne_t rfl (by first | omega | assumption) ?_
        refine i_aload_n rfl rfl ?_
        refine i_iload rfl rfl ?_
        refine i_aload_n rfl rfl ?_
        refine i_getr rfl rfl rfl rfl (by decide) rfl ?_
        refine i_iload rfl rfl ?_
        refine i_iald rfl rfl (by first | omega | assumption) (by first | omega | assumption) (by decide) ?_
        -- at 48
        rw [show (k : Int).toNat = k by omega, e19]
        refine i_iast rfl rfl (by first | omega | assumption) (by first | omega | assumption) ?_
        refine i_iinc rfl rfl (by unfold iR; omega) (Nat.le_of_ble_eq_true rfl) rfl ?_
        refine i_goto rfl ?_
        -- at 17
        rw [show (i : Int).toNat = i by omega]
        exact q1
    · exact done (c + 1) i a R l5 M hi h2 h7
set_option maxRecDepth 100000 in
theorem c_prefix {b : Bool} {M : iM} {B : Nat → Int} {m all : Nat} (hB : BS M B m 0) (hm : m ≤ 256) (hall : all ≤ 255) : ∃ M', irun none zp_102 0 (i_ent [iP 18, iP 28, iP 31, iI (all : Int)] 6) [] (SH b) M 0 0 (some (ob (pfx B m all)), SH b, M') ∧ Fr [18, 19, 20, 21, 24, 25, 26, 28, 31] M M' ∧ ∀ R', pfx B m all = some R' → ∀ j, j < all → M' 31 j = R' j ∧ 0 ≤ R' j ∧ R' j < 256 := by
  obtain ⟨M1, h1, f1, g1⟩ := c_table (b := b) hB hm
  by_cases ht : tab B m
  · rw [bz_t ht] at h1
    obtain ⟨a1, a2, a3⟩ := g1 ht
    obtain ⟨M2, h2, f2, b1, b2, b3⟩ := c_makeCodes (b := b) (M := M1) a1 (tn_b B).2
    have ep : pfx B m all = pdN B m all (lnB B) (tn B) (syB B) all 0 (7 + 12 * tn B) (fun _ => 0) := by unfold pfx; rw [if_pos ht]
    rw [ep]
    have h7 : 7 + 12 * tn B ≤ 8 * m := by
      have := (ht.2.2 (tn B - 1) (by have := ht.2.1; omega)).1
      have := ht.2.1
      omega
    have eL : ∀ i, i < tn B → M1 20 i = lnB B i := fun i hi => (a3 i hi).2
    have rkc : ∀ (l : Int) (k : Nat), k ≤ tn B → rkN (M1 20) l k = rkN (lnB B) l k := by
      intro l k
      induction k with
      | zero => intro _; rfl
      | succ k ih =>
        intro hk
        unfold rkN
        rw [ih (by omega), eL k (by omega)]
    have frc : ∀ l, frN (M1 20) (tn B) l = frN (lnB B) (tn B) l := by
      intro l
      induction l with
      | zero => rfl
      | succ l ih =>
        unfold frN
        rw [ih, rkc _ _ (Nat.le_refl _)]
    have fcc : ∀ l, fcN (M1 20) (tn B) l = fcN (lnB B) (tn B) l := by
      intro l
      induction l with
      | zero => rfl
      | succ l ih =>
        unfold fcN
        rw [ih, rkc _ _ (Nat.le_refl _)]
    have hT : TF M2 (lnB B) (tn B) := by
      refine ⟨fun l hl => ?_, ?_, fun i hi i1 i2 => ?_⟩
      · rw [← frc, ← fcc]; exact b1 l hl
      · rw [← frc]; exact b2
      · have := (b3 i hi (by rw [eL i hi]; exact i1) (by rw [eL i hi]; exact i2)).1
        rw [eL i hi, frc, rkc _ _ (by omega)] at this
        exact this
    obtain ⟨M3, h3, f3, g3⟩ := c_pdL (b := b) (B := B) (L := lnB B) (S := syB B) hm (tn_b B).2 hall (fun k _ => (sl_b B k).1) all 0 (7 + 12 * tn B) (fun _ => 0) none M2 (by omega) (by omega) h7 (by
      unfold BS
      rw [f2 28 (by decide), f2 29 (by decide)]
      exact a2) hT (fun k hk => by rw [f2 19 (by decide)]; exact (a3 k hk).1) (fun j hj => by omega)
    refine ⟨M3, ?_, Fr_t (Fr_t (Fr_t (Fr_r _ _) f1 (by decide)) f2 (by decide)) f3 (by decide), g3⟩
    refine i_aload_n rfl rfl ?_
    refine i_aload_n rfl rfl ?_
    -- at 2
    refine i_call (T := (103, zp_103)) rfl rfl (h1) rfl rfl rfl rfl rfl rfl rfl ?_
    try dsimp only
    show irun none zp_102 5 _ (iI (1) :: _) _ _ 0 0 _
    refine i_if_ne_t rfl (by first | omega | assumption) ?_
    refine i_aload_n rfl rfl ?_
    -- at 11
    refine i_call (T := (101, zp_101)) rfl rfl (h2) rfl rfl rfl rfl rfl rfl rfl ?_
    try dsimp only
    refine i_iconst (n := 0) rfl (by unfold iR; omega) ?_
    refine i_istore rfl (Nat.le_of_ble_eq_true rfl) rfl ?_
    -- at 17
    exact h3
  · have ep : pfx B m all = none := by unfold pfx; rw [if_neg ht]
    rw [ep]
    rw [bz_f ht] at h1
    refine ⟨M1, ?_, Fr_t (Fr_r _ _) f1 (by decide), fun R' hR => by cases hR⟩
    refine i_aload_n rfl rfl ?_
    refine i_aload_n rfl rfl ?_
    -- at 2
    refine i_call (T := (103, zp_103)) rfl rfl (h1) rfl rfl rfl rfl rfl rfl rfl ?_
    try dsimp only
    show irun none zp_102 5 _ (iI (0) :: _) _ _ 0 0 _
    refine i_if_ne_f rfl (by first | omega | assumption) ?_
    refine i_iconst (n := 0) rfl (by unfold iR; omega) ?_
    -- at 9
    exact i_zreturn rfl rfl (by first | omega | assumption)
