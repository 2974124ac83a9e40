/-- how many of the first have this length; ranks and codes at the end of a length -/
def rkN (L : Nat → Int) (l : Int) : Nat → Nat
  | 0 => 0
  | k + 1 => rkN L l k + (if L k = l then 1 else 0)
def frN (L : Nat → Int) (n : Nat) : Nat → Nat
  | 0 => 0
  | l + 1 => frN L n l + rkN L ((l + 1 : Nat) : Int) n
def fcN (L : Nat → Int) (n : Nat) : Nat → Int
  | 0 => 0
  | l + 1 => 2 * fcN L n l + rkN L ((l + 1 : Nat) : Int) n
def cd (L : Nat → Int) (n k : Nat) : Int := 2 * fcN L n ((L k).toNat - 1) + rkN L (L k) k
theorem rkN_b (L : Nat → Int) (l : Int) (k : Nat) : rkN L l k ≤ k := by
  induction k with
  | zero => exact Nat.le_refl _
  | succ k ih =>
    unfold rkN
    split <;> omega
theorem rkN_m {L : Nat → Int} {l : Int} {i k : Nat} (h : i ≤ k) : rkN L l i ≤ rkN L l k := by
  induction h with
  | refl => exact Nat.le_refl _
  | step h ih => exact Nat.le_trans ih (Nat.le_add_right _ _)
theorem rkN_s {L : Nat → Int} {l : Int} {i k : Nat} (h : i < k) (hl : L i = l) : rkN L l i < rkN L l k := by
  have h1 : rkN L l (i + 1) = rkN L l i + 1 := by
    show rkN L l i + (if L i = l then 1 else 0) = _
    rw [if_pos hl]
  have := rkN_m (L := L) (l := l) (i := i + 1) (k := k) h
  omega
theorem frN_n (L : Nat → Int) (n l : Nat) : frN L (n + 1) l = frN L n l + (if 1 ≤ L n ∧ L n ≤ l then 1 else 0) := by
  induction l with
  | zero =>
    rw [if_neg (by omega)]
    rfl
  | succ l ih =>
    show frN L (n + 1) l + (rkN L ((l + 1 : Nat) : Int) n + (if L n = ((l + 1 : Nat) : Int) then 1 else 0)) = frN L n l + rkN L ((l + 1 : Nat) : Int) n + _
    rw [ih]
    by_cases h1 : 1 ≤ L n ∧ L n ≤ l
    · rw [if_pos h1, if_neg (by omega), if_pos (by omega)]
      omega
    · by_cases h2 : L n = ((l + 1 : Nat) : Int)
      · rw [if_neg h1, if_pos h2, if_pos (by omega)]
        omega
      · rw [if_neg h1, if_neg h2, if_neg (by omega)]
        omega
theorem frN_b (L : Nat → Int) (l : Nat) : ∀ n, frN L n l ≤ n := by
  intro n
  induction n with
  | zero =>
    induction l with
    | zero => exact Nat.le_refl _
    | succ l ih =>
      show frN L 0 l + 0 ≤ 0
      omega
  | succ n ih =>
    rw [frN_n]
    split <;> omega
theorem frN_m {L : Nat → Int} {n i l : Nat} (h : i ≤ l) : frN L n i ≤ frN L n l := by
  induction h with
  | refl => exact Nat.le_refl _
  | step h ih => exact Nat.le_trans ih (Nat.le_add_right _ _)
theorem fcN_b {L : Nat → Int} {n : Nat} (hn : n ≤ 127) (l : Nat) : 0 ≤ fcN L n l ∧ fcN L n l + 127 ≤ 127 * 2 ^ l := by
  induction l with
  | zero => exact ⟨Int.le_refl _, by show (0 : Int) + 127 ≤ 127 * 1; decide⟩
  | succ l ih =>
    have := rkN_b L ((l + 1 : Nat) : Int) n
    rw [p2_s]
    unfold fcN
    omega
theorem p2_c : ∀ i : Nat, i ≤ 16 → (1 : Int) ≤ 2 ^ i ∧ (2 : Int) ^ i ≤ 65536 := by decide
theorem pos_lt {L : Nat → Int} {n i l : Nat} (hi : i < n) (h1 : 1 ≤ L i) (h2 : L i ≤ l) : frN L n ((L i).toNat - 1) + rkN L (L i) i < frN L n l := by
  have h3 : frN L n ((L i).toNat - 1 + 1) = frN L n ((L i).toNat - 1) + rkN L (((L i).toNat - 1 + 1 : Nat) : Int) n := rfl
  rw [show (((L i).toNat - 1 + 1 : Nat) : Int) = L i by omega] at h3
  have h4 := rkN_s (L := L) (l := L i) hi rfl
  have h5 := frN_m (L := L) (n := n) (show (L i).toNat - 1 + 1 ≤ l by omega)
  omega
set_option maxRecDepth 100000 in
theorem c_mcI {b : Bool} {M : iM} {n : Nat} (hn : M 18 9 = (n : Int)) (h127 : n ≤ 127) (l : Nat) (hl : l < 15) : ∀ (c k : Nat) (M1 : iM), k + c = n → Fr [21, 24, 25, 26] M M1 →
    (∀ i, i < n → 1 ≤ M 20 i → (M 20 i ≤ l ∨ (M 20 i = ((l + 1 : Nat) : Int) ∧ i < k)) → M1 24 (frN (M 20) n ((M 20 i).toNat - 1) + rkN (M 20) (M 20 i) i) = (i : Int) ∧ M1 21 i = cd (M 20) n i) →
    ∃ M2, (∀ q, irun none zp_101 81 [some (iP 18), some (iI (frN (M 20) n (l + 1) : Int)), some (iI (fcN (M 20) n (l + 1))), some (iI ((l + 1 : Nat) : Int)), some (iI (n : Int))] [] (SH b) M2 0 0 q →
      irun none zp_101 33 [some (iP 18), some (iI ((frN (M 20) n l + rkN (M 20) ((l + 1 : Nat) : Int) k : Nat) : Int)), some (iI (2 * fcN (M 20) n l + rkN (M 20) ((l + 1 : Nat) : Int) k)), some (iI ((l + 1 : Nat) : Int)), some (iI (k : Int))] [] (SH b) M1 0 0 q) ∧
      Fr [21, 24, 25, 26] M M2 ∧ M2 25 = M1 25 ∧ M2 26 = M1 26 ∧ ∀ i, i < n → 1 ≤ M 20 i → M 20 i ≤ ((l + 1 : Nat) : Int) → M2 24 (frN (M 20) n ((M 20 i).toNat - 1) + rkN (M 20) (M 20 i) i) = (i : Int) ∧ M2 21 i = cd (M 20) n i := by
  intro c
  induction c with
  | zero =>
    intro k M1 hk f1 hP
    obtain rfl : k = n := by omega
    have h1 : M1 18 9 = (k : Int) := by rw [f1 18 (by decide)]; exact hn
    refine ⟨M1, fun q hq => ?_, f1, rfl, rfl, fun i hi h1 h2 => hP i hi h1 (by omega)⟩
    refine i_iload rfl rfl ?_
    refine i_aload_n rfl rfl ?_
    refine i_getf rfl rfl rfl rfl (by decide) ?_
    refine i_icmp_ge_t rfl (by first | omega | assumption) ?_
    -- at 81
    exact hq
  | succ c ih =>
    intro k M1 hk f1 hP
    have h1 : M1 18 9 = (n : Int) := by rw [f1 18 (by decide)]; exact hn
    have h20 : M1 20 = M 20 := f1 20 (by decide)
    have fb := fcN_b (L := M 20) h127 l
    have rb := rkN_b (M 20) ((l + 1 : Nat) : Int) k
    have p2 := p2_c l (by omega)
    have f15 := frN_b (M 20) (l + 1) n
    by_cases hL : M 20 k = ((l + 1 : Nat) : Int)
    · have er : rkN (M 20) ((l + 1 : Nat) : Int) (k + 1) = rkN (M 20) ((l + 1 : Nat) : Int) k + 1 := by
        show _ + (if _ then 1 else 0) = _
        rw [if_pos hL]
      have rs := rkN_s (L := M 20) (show k < n by omega) hL
      have rs2 : frN (M 20) n (l + 1) = frN (M 20) n l + rkN (M 20) ((l + 1 : Nat) : Int) n := rfl
      have ek : cd (M 20) n k = 2 * fcN (M 20) n l + rkN (M 20) ((l + 1 : Nat) : Int) k := by
        unfold cd
        rw [hL, show ((l + 1 : Nat) : Int).toNat - 1 = l by omega]
      obtain ⟨M2, hnx, g2, g3, g4, g5⟩ := ih (k + 1) (i_st (i_st M1 24 (frN (M 20) n l + rkN (M 20) ((l + 1 : Nat) : Int) k) (k : Int)) 21 k (2 * fcN (M 20) n l + rkN (M 20) ((l + 1 : Nat) : Int) k)) (by omega) (Fr_st (Fr_st f1 (by decide)) (by decide)) (fun i hi i1 i2 => by
        show va_up (M1 24) (frN (M 20) n l + rkN (M 20) ((l + 1 : Nat) : Int) k) (k : Int) (frN (M 20) n ((M 20 i).toNat - 1) + rkN (M 20) (M 20 i) i) = _ ∧ va_up (M1 21) k (2 * fcN (M 20) n l + rkN (M 20) ((l + 1 : Nat) : Int) k) i = _
        by_cases e : i = k
        · rw [e, hL, show ((l + 1 : Nat) : Int).toNat - 1 = l by omega, up_s, up_s, ek]
          exact ⟨rfl, rfl⟩
        · obtain ⟨p1, p2⟩ := hP i hi i1 (by omega)
          rw [up_n e]
          refine ⟨?_, p2⟩
          rw [up_n]
          · exact p1
          · rcases i2 with i2 | i2
            · have := pos_lt (L := M 20) hi i1 i2
              omega
            · rw [i2.1, show ((l + 1 : Nat) : Int).toNat - 1 = l by omega]
              have := rkN_s (L := M 20) (show i < k by omega) i2.1
              omega)
      refine ⟨M2, fun q hq => ?_, g2, g3, g4, g5⟩
      have hnx := hnx q hq
      rw [er] at hnx
      refine i_iload rfl rfl ?_
      refine i_aload_n rfl rfl ?_
      refine i_getf rfl rfl rfl rfl (by decide) ?_
      refine i_icmp_ge_f rfl (by first | omega | assumption) ?_
      refine i_aload_n rfl rfl ?_
      refine i_getr rfl rfl rfl rfl (by decide) rfl ?_
      refine i_iload rfl rfl ?_
      refine i_iald rfl rfl (by first | omega | assumption) (by first | omega | assumption) (by decide) ?_
      -- at 49
      show irun none zp_101 49 _ (iI (M1 20 k) :: _) _ _ 0 0 _
      rw [h20, hL]
      refine i_iload_n rfl rfl ?_
      refine i_icmp_ne_f rfl (by first | omega | assumption) ?_
      refine i_aload_n rfl rfl ?_
      refine i_getr rfl rfl rfl rfl (by decide) rfl ?_
      refine i_iload_n rfl rfl ?_
      refine i_iload rfl rfl ?_
      refine i_iast rfl rfl (by first | omega | assumption) (by first | omega | assumption) ?_
      refine i_aload_n rfl rfl ?_
      refine i_getr rfl rfl rfl rfl (by decide) rfl ?_
      refine i_iload rfl rfl ?_
      refine i_iload_n rfl rfl ?_
      refine i_iast rfl rfl (by first | omega | assumption) (by first | omega | assumption) ?_
      refine i_iinc rfl rfl (by unfold iR; omega) (Nat.le_of_ble_eq_true rfl) rfl ?_
      refine i_iinc rfl rfl (by unfold iR; omega) (Nat.le_of_ble_eq_true rfl) rfl ?_
      refine i_iinc rfl rfl (by unfold iR; omega) (Nat.le_of_ble_eq_true rfl) rfl ?_
      refine i_goto rfl ?_
      -- at 33
      rw [show ((frN (M 20) n l + rkN (M 20) ((l + 1 : Nat) : Int) k : Nat) : Int).toNat = frN (M 20) n l + rkN (M 20) ((l + 1 : Nat) : Int) k by omega, show (k : Int).toNat = k by omega]
      rw [show ((frN (M 20) n l + (rkN (M 20) ((l + 1 : Nat) : Int) k + 1) : Nat) : Int) = ((frN (M 20) n l + rkN (M 20) ((l + 1 : Nat) : Int) k : Nat) : Int) + 1 by omega, show 2 * fcN (M 20) n l + ((rkN (M 20) ((l + 1 : Nat) : Int) k + 1 : Nat) : Int) = 2 * fcN (M 20) n l + (rkN (M 20) ((l + 1 : Nat) : Int) k : Int) + 1 by omega] at hnx
      exact hnx
    · have er : rkN (M 20) ((l + 1 : Nat) : Int) (k + 1) = rkN (M 20) ((l + 1 : Nat) : Int) k := by
        show _ + (if _ then 1 else 0) = _
        rw [if_neg hL]
        rfl
      obtain ⟨M2, hnx, g2⟩ := ih (k + 1) M1 (by omega) f1 (fun i hi i1 i2 => hP i hi i1 (by
        by_cases e : i = k
        · rw [e] at i2 ⊢
          omega
        · omega))
      refine ⟨M2, fun q hq => ?_, g2⟩
      have hnx := hnx q hq
      rw [er] at hnx
      refine i_iload rfl rfl ?_
      refine i_aload_n rfl rfl ?_
      refine i_getf rfl rfl rfl rfl (by decide) ?_
      refine i_icmp_ge_f rfl (by first | omega | assumption) ?_
      refine i_aload_n rfl rfl ?_
      refine i_getr rfl rfl rfl rfl (by decide) rfl ?_
      refine i_iload rfl rfl ?_
      refine i_iald rfl rfl (by first | omega | assumption) (by first | omega | assumption) (by decide) ?_
      -- at 49
      show irun none zp_101 49 _ (iI (M1 20 k) :: _) _ _ 0 0 _
      rw [h20]
      refine i_iload_n rfl rfl ?_
      refine i_icmp_ne_t rfl (by first | omega | assumption) ?_
      refine i_iinc rfl rfl (by unfold iR; omega) (Nat.le_of_ble_eq_true rfl) rfl ?_
      refine i_goto rfl ?_
      -- at 33
      exact hnx
set_option maxRecDepth 100000 in
theorem c_makeCodes {b : Bool} {M : iM} {n : Nat} (hn : M 18 9 = (n : Int)) (h127 : n ≤ 127) :
    ∃ M', irun none zp_101 0 (i_ent [iP 18] 5) [] (SH b) M 0 0 (none, SH b, M') ∧ Fr [21, 24, 25, 26] M M' ∧ (∀ l, l < 15 → M' 25 (l + 1) = (frN (M 20) n l : Int) ∧ M' 26 (l + 1) = 2 * fcN (M 20) n l) ∧ M' 25 16 = (frN (M 20) n 15 : Int) ∧ ∀ i, i < n → 1 ≤ M 20 i → M 20 i ≤ 15 → M' 24 (frN (M 20) n ((M 20 i).toNat - 1) + rkN (M 20) (M 20 i) i) = (i : Int) ∧ M' 21 i = cd (M 20) n i := by
  have outer : ∀ (c l : Nat) (M1 : iM) (l4 : Option iV), l + c = 15 → Fr [21, 24, 25, 26] M M1 → (∀ j, j < l → M1 25 (j + 1) = (frN (M 20) n j : Int) ∧ M1 26 (j + 1) = 2 * fcN (M 20) n j) → (∀ i, i < n → 1 ≤ M 20 i → M 20 i ≤ l → M1 24 (frN (M 20) n ((M 20 i).toNat - 1) + rkN (M 20) (M 20 i) i) = (i : Int) ∧ M1 21 i = cd (M 20) n i) →
      ∃ M', irun none zp_101 6 [some (iP 18), some (iI (frN (M 20) n l : Int)), some (iI (fcN (M 20) n l)), some (iI ((l + 1 : Nat) : Int)), l4] [] (SH b) M1 0 0 (none, SH b, M') ∧ Fr [21, 24, 25, 26] M M' ∧ (∀ l, l < 15 → M' 25 (l + 1) = (frN (M 20) n l : Int) ∧ M' 26 (l + 1) = 2 * fcN (M 20) n l) ∧ M' 25 16 = (frN (M 20) n 15 : Int) ∧ ∀ i, i < n → 1 ≤ M 20 i → M 20 i ≤ 15 → M' 24 (frN (M 20) n ((M 20 i).toNat - 1) + rkN (M 20) (M 20 i) i) = (i : Int) ∧ M' 21 i = cd (M 20) n i := by
    intro c
    induction c with
    | zero =>
      intro l M1 l4 hl f1 h1 h2
      obtain rfl : l = 15 := by omega
      refine ⟨i_st M1 25 16 (frN (M 20) n 15 : Int), ?_, Fr_st f1 (by decide), fun l hl => ?_, rfl, h2⟩
      · refine i_iload_n rfl rfl ?_
        refine i_bipush (n := 15) rfl (by unfold iR; omega) (by decide) ?_
        refine i_icmp_gt_t rfl (by first | omega | assumption) ?_
        refine i_aload_n rfl rfl ?_
        refine i_getr rfl rfl rfl rfl (by decide) rfl ?_
        refine i_bipush (n := 16) rfl (by unfold iR; omega) (by decide) ?_
        refine i_iload_n rfl rfl ?_
        refine i_iast rfl rfl (by first | omega | assumption) (by first | omega | assumption) ?_
        -- at 95
        exact i_vreturn rfl rfl
      · refine ⟨?_, (h1 l hl).2⟩
        show va_up (M1 25) 16 _ (l + 1) = _
        rw [up_n (by omega)]
        exact (h1 l hl).1
    | succ c ih =>
      intro l M1 l4 hl f1 h1 h2
      have fb := fcN_b (L := M 20) h127 l
      have p2 := p2_c l (by omega)
      have fr := frN_b (M 20) l n
      obtain ⟨M2, hM2⟩ : ∃ M2, M2 = i_st (i_st M1 25 (l + 1) (frN (M 20) n l : Int)) 26 (l + 1) (2 * fcN (M 20) n l) := ⟨_, rfl⟩
      have f2 : Fr [21, 24, 25, 26] M M2 := by rw [hM2]; exact Fr_st (Fr_st f1 (by decide)) (by decide)
      have h12 : ∀ j, j < l + 1 → M2 25 (j + 1) = (frN (M 20) n j : Int) ∧ M2 26 (j + 1) = 2 * fcN (M 20) n j := by
        intro j hj
        rw [hM2]
        show va_up (M1 25) (l + 1) _ (j + 1) = _ ∧ va_up (M1 26) (l + 1) _ (j + 1) = _
        by_cases e : j = l
        · rw [e, up_s, up_s]; exact ⟨rfl, rfl⟩
        · rw [up_n (by omega), up_n (by omega)]
          exact h1 j (by omega)
      have h22 : ∀ i, i < n → 1 ≤ M 20 i → M 20 i ≤ l → M2 24 (frN (M 20) n ((M 20 i).toNat - 1) + rkN (M 20) (M 20 i) i) = (i : Int) ∧ M2 21 i = cd (M 20) n i := by
        rw [hM2]
        exact h2
      have hst : ∀ q, irun none zp_101 33 [some (iP 18), some (iI ((frN (M 20) n l + rkN (M 20) ((l + 1 : Nat) : Int) 0 : Nat) : Int)), some (iI (2 * fcN (M 20) n l + rkN (M 20) ((l + 1 : Nat) : Int) 0)), some (iI ((l + 1 : Nat) : Int)), some (iI ((0 : Nat) : Int))] [] (SH b) M2 0 0 q → irun none zp_101 6 [some (iP 18), some (iI (frN (M 20) n l : Int)), some (iI (fcN (M 20) n l)), some (iI ((l + 1 : Nat) : Int)), l4] [] (SH b) M1 0 0 q := by
        intro q hq
        rw [show ((frN (M 20) n l + rkN (M 20) ((l + 1 : Nat) : Int) 0 : Nat) : Int) = (frN (M 20) n l : Int) from rfl, show 2 * fcN (M 20) n l + (rkN (M 20) ((l + 1 : Nat) : Int) 0 : Int) = fcN (M 20) n l * 2 by
          show 2 * fcN (M 20) n l + ((0 : Nat) : Int) = _
          omega, hM2, show 2 * fcN (M 20) n l = fcN (M 20) n l * 2 by omega] at hq
        refine i_iload_n rfl rfl ?_
        refine i_bipush (n := 15) rfl (by unfold iR; omega) (by decide) ?_
        refine i_icmp_gt_f rfl (by first | omega | assumption) ?_
        refine i_iload_n rfl rfl ?_
        refine i_iconst (n := 2) rfl (by unfold iR; omega) ?_
        refine i_imul rfl (by unfold iR; omega) ?_
        refine i_istore_n rfl (Nat.le_of_ble_eq_true rfl) rfl ?_
        refine i_aload_n rfl rfl ?_
        refine i_getr rfl rfl rfl rfl (by decide) rfl ?_
        refine i_iload_n rfl rfl ?_
        refine i_iload_n rfl rfl ?_
        refine i_iast rfl rfl (by first | omega | assumption) (by first | omega | assumption) ?_
        refine i_aload_n rfl rfl ?_
        refine i_getr rfl rfl rfl rfl (by decide) rfl ?_
        refine i_iload_n rfl rfl ?_
        refine i_iload_n rfl rfl ?_
        refine i_iast rfl rfl (by first | omega | assumption) (by first | omega | assumption) ?_
        refine i_iconst (n := 0) rfl (by unfold iR; omega) ?_
        refine i_istore rfl (Nat.le_of_ble_eq_true rfl) rfl ?_
        -- at 33
        rw [show ((l + 1 : Nat) : Int).toNat = l + 1 by omega]
        exact hq
      obtain ⟨M3, k1, k2, k3, k4, k5⟩ := c_mcI (b := b) hn h127 l (by omega) n 0 M2 (by omega) f2 (fun i hi i1 i2 => h22 i hi i1 (by omega))
      obtain ⟨M', g1, g2⟩ := ih (l + 1) M3 (some (iI (n : Int))) (by omega) k2 (by rw [k3, k4]; exact h12) k5
      refine ⟨M', hst _ (k1 _ ?_), g2⟩
      refine i_iinc rfl rfl (by unfold iR; omega) (Nat.le_of_ble_eq_true rfl) rfl ?_
      refine i_goto rfl ?_
      -- at 6
      exact g1
  obtain ⟨M', g1, g2⟩ := outer 15 0 M none (by omega) (Fr_r _ _) (fun j hj => by omega) (fun i hi h1 h2 => by omega)
  refine ⟨M', ?_, g2⟩
  refine i_iconst (n := 0) rfl (by unfold iR; omega) ?_
  refine i_istore_n rfl (Nat.le_of_ble_eq_true rfl) rfl ?_
  refine i_iconst (n := 0) rfl (by unfold iR; omega) ?_
  refine i_istore_n rfl (Nat.le_of_ble_eq_true rfl) rfl ?_
  refine i_iconst (n := 1) rfl (by unfold iR; omega) ?_
  refine i_istore_n rfl (Nat.le_of_ble_eq_true rfl) rfl ?_
  -- at 6
  exact g1
set_option maxRecDepth 100000 in
theorem d_cdI {b : Bool} {M : iM} {n : Nat} (hn : M 40 26 = (n : Int)) (h127 : n ≤ 127) (l : Nat) (hl : l < 15) : ∀ (c k : Nat) (M1 : iM) (x : Int) (e : Nat), k + c = n → Fr [57] M M1 → 0 ≤ x → e ≤ l + 1 → x * 2 ^ (l + 1 - e) = 2 * fcN (M 56) n l + rkN (M 56) ((l + 1 : Nat) : Int) k →
    (∀ i, i < n → 1 ≤ M 56 i → (M 56 i ≤ l ∨ (M 56 i = ((l + 1 : Nat) : Int) ∧ i < k)) → M1 57 i = cd (M 56) n i) →
    ∃ (M2 : iM) (x' : Int) (e' : Nat), (∀ q, irun none zp_127 60 [some (iP 40), some (iI x'), some (iI (e' : Int)), some (iI ((l + 1 : Nat) : Int)), some (iI (n : Int))] [] (SH b) M2 0 0 q →
      irun none zp_127 15 [some (iP 40), some (iI x), some (iI (e : Int)), some (iI ((l + 1 : Nat) : Int)), some (iI (k : Int))] [] (SH b) M1 0 0 q) ∧
      Fr [57] M M2 ∧ 0 ≤ x' ∧ e' ≤ l + 1 ∧ x' * 2 ^ (l + 1 - e') = fcN (M 56) n (l + 1) ∧ ∀ i, i < n → 1 ≤ M 56 i → M 56 i ≤ ((l + 1 : Nat) : Int) → M2 57 i = cd (M 56) n i := by
  intro c
  induction c with
  | zero =>
    intro k M1 x e hk f1 hx he hxe hP
    obtain rfl : k = n := by omega
    have h1 : M1 40 26 = (k : Int) := by rw [f1 40 (by decide)]; exact hn
    refine ⟨M1, x, e, fun q hq => ?_, f1, hx, he, hxe, fun i hi h1 h2 => hP i hi h1 (by omega)⟩
    refine i_iload rfl rfl ?_
    refine i_aload_n rfl rfl ?_
    refine i_getf rfl rfl rfl rfl (by decide) ?_
    refine i_icmp_ge_t rfl (by first | omega | assumption) ?_
    -- at 60
    exact hq
  | succ c ih =>
    intro k M1 x e hk f1 hx he hxe hP
    have h1 : M1 40 26 = (n : Int) := by rw [f1 40 (by decide)]; exact hn
    have h56 : M1 56 = M 56 := f1 56 (by decide)
    have fb := fcN_b (L := M 56) h127 l
    have rb := rkN_b (M 56) ((l + 1 : Nat) : Int) k
    have p2 := p2_c l (by omega)
    by_cases hL : M 56 k = ((l + 1 : Nat) : Int)
    · have er : rkN (M 56) ((l + 1 : Nat) : Int) (k + 1) = rkN (M 56) ((l + 1 : Nat) : Int) k + 1 := by
        show _ + (if _ then 1 else 0) = _
        rw [if_pos hL]
      have ek : cd (M 56) n k = x * 2 ^ (l + 1 - e) := by
        unfold cd
        rw [hL, show ((l + 1 : Nat) : Int).toNat - 1 = l by omega, hxe]
      have hR : iR (x * 2 ^ (((l + 1 : Nat) : Int) - (e : Int)).toNat) := by
        rw [show (((l + 1 : Nat) : Int) - (e : Int)).toNat = l + 1 - e by omega, hxe]
        unfold iR
        omega
      obtain ⟨M2, x', e', hnx, g2⟩ := ih (k + 1) (i_st M1 57 k (x * 2 ^ (l + 1 - e))) (x * 2 ^ (l + 1 - e) + 1) (l + 1) (by omega) (Fr_st f1 (by decide)) (by omega) (by omega) (by
        rw [Nat.sub_self, er]
        show (x * 2 ^ (l + 1 - e) + 1) * 1 = _
        omega) (fun i hi i1 i2 => by
        show va_up (M1 57) k _ i = _
        by_cases q : i = k
        · rw [q, up_s, ek]
        · rw [up_n q]
          exact hP i hi i1 (by omega))
      refine ⟨M2, x', e', fun q hq => ?_, g2⟩
      have hnx := hnx q hq
      refine i_iload rfl rfl ?_
      refine i_aload_n rfl rfl ?_
      refine i_getf rfl rfl rfl rfl (by decide) ?_
      refine i_icmp_ge_f rfl (by first | omega | assumption) ?_
      refine i_aload_n rfl rfl ?_
      refine i_getr rfl rfl rfl rfl (by decide) rfl ?_
      refine i_iload rfl rfl ?_
      refine i_iald rfl rfl (by first | omega | assumption) (by first | omega | assumption) (by decide) ?_
      -- at 31
      show irun none zp_127 31 _ (iI (M1 56 k) :: _) _ _ 0 0 _
      rw [h56, hL]
      refine i_iload_n rfl rfl ?_
      refine i_icmp_ne_f rfl (by first | omega | assumption) ?_
      refine i_iload_n rfl rfl ?_
      refine i_iload_n rfl rfl ?_
      refine i_iload_n rfl rfl ?_
      refine i_isub rfl (by unfold iR; omega) ?_
      refine i_ishl rfl (by first | omega | assumption) (by first | omega | assumption) (by first | omega | assumption) (by first | assumption | (unfold iR; omega)) ?_
      -- at 40
      rw [show (((l + 1 : Nat) : Int) - (e : Int)).toNat = l + 1 - e by omega]
      refine i_istore_n rfl (Nat.le_of_ble_eq_true rfl) rfl ?_
      refine i_iload_n rfl rfl ?_
      refine i_istore_n rfl (Nat.le_of_ble_eq_true rfl) rfl ?_
      refine i_aload_n rfl rfl ?_
      refine i_getr rfl rfl rfl rfl (by decide) rfl ?_
      refine i_iload rfl rfl ?_
      refine i_iload_n rfl rfl ?_
      refine i_iast rfl rfl (by first | omega | assumption) (by first | omega | assumption) ?_
      refine i_iinc rfl rfl (by unfold iR; omega) (Nat.le_of_ble_eq_true rfl) rfl ?_
      refine i_iinc rfl rfl (by unfold iR; omega) (Nat.le_of_ble_eq_true rfl) rfl ?_
      refine i_goto rfl ?_
      -- at 15
      rw [show (k : Int).toNat = k by omega]
      exact hnx
    · have er : rkN (M 56) ((l + 1 : Nat) : Int) (k + 1) = rkN (M 56) ((l + 1 : Nat) : Int) k := by
        show _ + (if _ then 1 else 0) = _
        rw [if_neg hL]
        rfl
      obtain ⟨M2, x', e', hnx, g2⟩ := ih (k + 1) M1 x e (by omega) f1 hx he (by rw [er]; exact hxe) (fun i hi i1 i2 => hP i hi i1 (by
        by_cases q : i = k
        · rw [q] at i2 ⊢
          omega
        · omega))
      refine ⟨M2, x', e', fun q hq => ?_, g2⟩
      have hnx := hnx q hq
      refine i_iload rfl rfl ?_
      refine i_aload_n rfl rfl ?_
      refine i_getf rfl rfl rfl rfl (by decide) ?_
      refine i_icmp_ge_f rfl (by first | omega | assumption) ?_
      refine i_aload_n rfl rfl ?_
      refine i_getr rfl rfl rfl rfl (by decide) rfl ?_
      refine i_iload rfl rfl ?_
      refine i_iald rfl rfl (by first | omega | assumption) (by first | omega | assumption) (by decide) ?_
      -- at 31
      show irun none zp_127 31 _ (iI (M1 56 k) :: _) _ _ 0 0 _
      rw [h56]
      refine i_iload_n rfl rfl ?_
      refine i_icmp_ne_t rfl (by first | omega | assumption) ?_
      refine i_iinc rfl rfl (by unfold iR; omega) (Nat.le_of_ble_eq_true rfl) rfl ?_
      refine i_goto rfl ?_
      -- at 15
      exact hnx
set_option maxRecDepth 100000 in
theorem d_codes {b : Bool} {M : iM} {n : Nat} (hn : M 40 26 = (n : Int)) (h127 : n ≤ 127) :
    ∃ M', irun none zp_127 0 (i_ent [iP 40] 5) [] (SH b) M 0 0 (none, SH b, M') ∧ Fr [57] M M' ∧ ∀ i, i < n → 1 ≤ M 56 i → M 56 i ≤ 15 → M' 57 i = cd (M 56) n i := by
  have outer : ∀ (c l : Nat) (M1 : iM) (x : Int) (e : Nat) (l4 : Option iV), l + c = 15 → Fr [57] M M1 → 0 ≤ x → e ≤ l → x * 2 ^ (l - e) = fcN (M 56) n l → (∀ i, i < n → 1 ≤ M 56 i → M 56 i ≤ l → M1 57 i = cd (M 56) n i) →
      ∃ M', irun none zp_127 6 [some (iP 40), some (iI x), some (iI (e : Int)), some (iI ((l + 1 : Nat) : Int)), l4] [] (SH b) M1 0 0 (none, SH b, M') ∧ Fr [57] M M' ∧ ∀ i, i < n → 1 ≤ M 56 i → M 56 i ≤ 15 → M' 57 i = cd (M 56) n i := by
    intro c
    induction c with
    | zero =>
      intro l M1 x e l4 hl f1 hx he hxe h2
      obtain rfl : l = 15 := by omega
      refine ⟨M1, ?_, f1, h2⟩
      refine i_iload_n rfl rfl ?_
      refine i_bipush (n := 15) rfl (by unfold iR; omega) (by decide) ?_
      refine i_icmp_gt_t rfl (by first | omega | assumption) ?_
      -- at 66
      exact i_vreturn rfl rfl
    | succ c ih =>
      intro l M1 x e l4 hl f1 hx he hxe h2
      obtain ⟨M2, x', e', k1, k2, k3, k4, k5, k6⟩ := d_cdI (b := b) hn h127 l (by omega) n 0 M1 x e (by omega) f1 hx (by omega) (by
        rw [show l + 1 - e = l - e + 1 by omega, p2_s]
        show _ = 2 * fcN (M 56) n l + ((0 : Nat) : Int)
        rw [← hxe, ← Int.mul_assoc, Int.mul_comm x 2, Int.mul_assoc]
        omega) (fun i hi i1 i2 => h2 i hi i1 (by omega))
      obtain ⟨M', g1, g2⟩ := ih (l + 1) M2 x' e' (some (iI (n : Int))) (by omega) k2 k3 k4 k5 k6
      refine ⟨M', ?_, g2⟩
      refine i_iload_n rfl rfl ?_
      refine i_bipush (n := 15) rfl (by unfold iR; omega) (by decide) ?_
      refine i_icmp_gt_f rfl (by first | omega | assumption) ?_
      refine i_iconst (n := 0) rfl (by unfold iR; omega) ?_
      refine i_istore rfl (Nat.le_of_ble_eq_true rfl) rfl ?_
      -- at 15
      refine k1 _ ?_
      refine i_iinc rfl rfl (by unfold iR; omega) (Nat.le_of_ble_eq_true rfl) rfl ?_
      refine i_goto rfl ?_
      -- at 6
      exact g1
  obtain ⟨M', g1, g2⟩ := outer 15 0 M 0 0 none (by omega) (Fr_r _ _) (by decide) (by decide) (by rfl) (fun i hi h1 h2 => by omega)
  refine ⟨M', ?_, g2⟩
  refine i_iconst (n := 0) rfl (by unfold iR; omega) ?_
  refine i_istore_n rfl (Nat.le_of_ble_eq_true rfl) rfl ?_
  refine i_iconst (n := 0) rfl (by unfold iR; omega) ?_
  refine i_istore_n rfl (Nat.le_of_ble_eq_true rfl) rfl ?_
  refine i_iconst (n := 1) rfl (by unfold iR; omega) ?_
  refine i_istore_n rfl (Nat.le_of_ble_eq_true rfl) rfl ?_
  -- at 6
  exact g1
