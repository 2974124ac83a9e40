set_option maxRecDepth 100000 in
theorem d_tkS1 {b : Bool} {M : iM} {s first n files : Int} {k : Nat} {l7 l8 : Option iV} {q : Option Int × List zS × iM} (hk : k < 10)
    (hq : irun none zp_139 211 [some (iP 40), some (iI s), some (iI first), some (iI n), some (iI files), some (iI (k : Int)), some (iI (1 + 7 * (k : Int))), l7, l8] [iI (bz (k = 0 ∨ ls (fun j => M 60 (1 + j)) (k - 1) (M 60 (1 + 7 * k)) (M 60 (1 + (7 * k + 1)))))] (SH b) M 0 0 q) :
    irun none zp_139 139 [some (iP 40), some (iI s), some (iI first), some (iI n), some (iI files), some (iI (k : Int)), some (iI (1 + 7 * (k : Int))), l7, l8] [] (SH b) M 0 0 q := by
  by_cases h0 : k = 0
  · rw [bz_t (Or.inl h0)] at hq
    refine i_iload rfl rfl ?_
    refine i_if_eq_t rfl (by first | omega | assumption) ?_
    refine i_iconst (n := 1) rfl (by unfold iR; omega) ?_
    refine i_goto rfl ?_
    -- at 211
    exact hq
  · have E0 : (1 + 7 * (k : Int)).toNat = 1 + 7 * k := by omega
    have E7 : (1 + 7 * (k : Int) - 7).toNat = 1 + 7 * (k - 1) := by omega
    have E1 : (1 + 7 * (k : Int) + 1).toNat = 1 + (7 * k + 1) := by omega
    have E6 : (1 + 7 * (k : Int) - 6).toNat = 1 + (7 * (k - 1) + 1) := by omega
    by_cases c1 : M 60 (1 + 7 * (k - 1)) < M 60 (1 + 7 * k)
    · rw [bz_t (show _ ∨ ls (fun j => M 60 (1 + j)) _ _ _ from Or.inr (Or.inl c1))] at hq
      rw [← E7, ← E0] at c1
      refine i_iload rfl rfl ?_
      refine i_if_eq_f rfl (by first | omega | assumption) ?_
      refine i_aload_n rfl rfl ?_
      refine i_getr rfl rfl rfl rfl (by decide) rfl ?_
      refine i_iload rfl rfl ?_
      refine i_iald rfl rfl (by first | omega | assumption) (by first | omega | assumption) (by decide) ?_
      refine i_aload_n rfl rfl ?_
      refine i_getr rfl rfl rfl rfl (by decide) rfl ?_
      refine i_iload rfl rfl ?_
      refine i_bipush (n := 7) rfl (by unfold iR; omega) (by decide) ?_
      refine i_isub rfl (by unfold iR; omega) ?_
      refine i_iald rfl rfl (by first | omega | assumption) (by first | omega | assumption) (by decide) ?_
      refine i_icmp_gt_t rfl (by first | omega | assumption) ?_
      refine i_iconst (n := 1) rfl (by unfold iR; omega) ?_
      refine i_goto rfl ?_
      -- at 211
      exact hq
    · by_cases c2 : M 60 (1 + 7 * (k - 1)) = M 60 (1 + 7 * k)
      · by_cases c3 : M 60 (1 + (7 * (k - 1) + 1)) < M 60 (1 + (7 * k + 1))
        · rw [bz_t (show _ ∨ ls (fun j => M 60 (1 + j)) _ _ _ from Or.inr (Or.inr ⟨c2, c3⟩))] at hq
          rw [← E7, ← E0] at c1 c2
          rw [← E6, ← E1] at c3
          refine i_iload rfl rfl ?_
          refine i_if_eq_f rfl (by first | omega | assumption) ?_
          refine i_aload_n rfl rfl ?_
          refine i_getr rfl rfl rfl rfl (by decide) rfl ?_
          refine i_iload rfl rfl ?_
          refine i_iald rfl rfl (by first | omega | assumption) (by first | omega | assumption) (by decide) ?_
          refine i_aload_n rfl rfl ?_
          refine i_getr rfl rfl rfl rfl (by decide) rfl ?_
          refine i_iload rfl rfl ?_
          refine i_bipush (n := 7) rfl (by unfold iR; omega) (by decide) ?_
          refine i_isub rfl (by unfold iR; omega) ?_
          refine i_iald rfl rfl (by first | omega | assumption) (by first | omega | assumption) (by decide) ?_
          refine i_icmp_gt_f rfl (by first | omega | assumption) ?_
          refine i_aload_n rfl rfl ?_
          refine i_getr rfl rfl rfl rfl (by decide) rfl ?_
          refine i_iload rfl rfl ?_
          refine i_iald rfl rfl (by first | omega | assumption) (by first | omega | assumption) (by decide) ?_
          refine i_aload_n rfl rfl ?_
          refine i_getr rfl rfl rfl rfl (by decide) rfl ?_
          refine i_iload rfl rfl ?_
          refine i_bipush (n := 7) rfl (by unfold iR; omega) (by decide) ?_
          refine i_isub rfl (by unfold iR; omega) ?_
          refine i_iald rfl rfl (by first | omega | assumption) (by first | omega | assumption) (by decide) ?_
          refine i_icmp_ne_f rfl (by first | omega | assumption) ?_
          refine i_aload_n rfl rfl ?_
          refine i_getr rfl rfl rfl rfl (by decide) rfl ?_
          refine i_iload rfl rfl ?_
          refine i_iconst (n := 1) rfl (by unfold iR; omega) ?_
          refine i_iadd rfl (by unfold iR; omega) ?_
          refine i_iald rfl rfl (by first | omega | assumption) (by first | omega | assumption) (by decide) ?_
          refine i_aload_n rfl rfl ?_
          refine i_getr rfl rfl rfl rfl (by decide) rfl ?_
          refine i_iload rfl rfl ?_
          refine i_bipush (n := 6) rfl (by unfold iR; omega) (by decide) ?_
          refine i_isub rfl (by unfold iR; omega) ?_
          refine i_iald rfl rfl (by first | omega | assumption) (by first | omega | assumption) (by decide) ?_
          refine i_icmp_le_f rfl (by first | omega | assumption) ?_
          refine i_iconst (n := 1) rfl (by unfold iR; omega) ?_
          refine i_goto rfl ?_
          -- at 211
          exact hq
        · rw [bz_f (by
            rintro (q | q | q)
            · exact h0 q
            · exact c1 q
            · exact c3 q.2)] at hq
          rw [← E7, ← E0] at c1 c2
          rw [← E6, ← E1] at c3
          refine i_iload rfl rfl ?_
          refine i_if_eq_f rfl (by first | omega | assumption) ?_
          refine i_aload_n rfl rfl ?_
          refine i_getr rfl rfl rfl rfl (by decide) rfl ?_
          refine i_iload rfl rfl ?_
          refine i_iald rfl rfl (by first | omega | assumption) (by first | omega | assumption) (by decide) ?_
          refine i_aload_n rfl rfl ?_
          refine i_getr rfl rfl rfl rfl (by decide) rfl ?_
          refine i_iload rfl rfl ?_
          refine i_bipush (n := 7) rfl (by unfold iR; omega) (by decide) ?_
          refine i_isub rfl (by unfold iR; omega) ?_
          refine i_iald rfl rfl (by first | omega | assumption) (by first | omega | assumption) (by decide) ?_
          refine i_icmp_gt_f rfl (by first | omega | assumption) ?_
          refine i_aload_n rfl rfl ?_
          refine i_getr rfl rfl rfl rfl (by decide) rfl ?_
          refine i_iload rfl rfl ?_
          refine i_iald rfl rfl (by first | omega | assumption) (by first | omega | assumption) (by decide) ?_
          refine i_aload_n rfl rfl ?_
          refine i_getr rfl rfl rfl rfl (by decide) rfl ?_
          refine i_iload rfl rfl ?_
          refine i_bipush (n := 7) rfl (by unfold iR; omega) (by decide) ?_
          refine i_isub rfl (by unfold iR; omega) ?_
          refine i_iald rfl rfl (by first | omega | assumption) (by first | omega | assumption) (by decide) ?_
          refine i_icmp_ne_f rfl (by first | omega | assumption) ?_
          refine i_aload_n rfl rfl ?_
          refine i_getr rfl rfl rfl rfl (by decide) rfl ?_
          refine i_iload rfl rfl ?_
          refine i_iconst (n := 1) rfl (by unfold iR; omega) ?_
          refine i_iadd rfl (by unfold iR; omega) ?_
          refine i_iald rfl rfl (by first | omega | assumption) (by first | omega | assumption) (by decide) ?_
          refine i_aload_n rfl rfl ?_
          refine i_getr rfl rfl rfl rfl (by decide) rfl ?_
          refine i_iload rfl rfl ?_
          refine i_bipush (n := 6) rfl (by unfold iR; omega) (by decide) ?_
          refine i_isub rfl (by unfold iR; omega) ?_
          refine i_iald rfl rfl (by first | omega | assumption) (by first | omega | assumption) (by decide) ?_
          refine i_icmp_le_t rfl (by first | omega | assumption) ?_
          refine i_iconst (n := 0) rfl (by unfold iR; omega) ?_
          -- at 211
          exact hq
      · rw [bz_f (by
          rintro (q | q | q)
          · exact h0 q
          · exact c1 q
          · exact c2 q.1)] at hq
        rw [← E7, ← E0] at c1 c2
        refine i_iload rfl rfl ?_
        refine i_if_eq_f rfl (by first | omega | assumption) ?_
        refine i_aload_n rfl rfl ?_
        refine i_getr rfl rfl rfl rfl (by decide) rfl ?_
        refine i_iload rfl rfl ?_
        refine i_iald rfl rfl (by first | omega | assumption) (by first | omega | assumption) (by decide) ?_
        refine i_aload_n rfl rfl ?_
        refine i_getr rfl rfl rfl rfl (by decide) rfl ?_
        refine i_iload rfl rfl ?_
        refine i_bipush (n := 7) rfl (by unfold iR; omega) (by decide) ?_
        refine i_isub rfl (by unfold iR; omega) ?_
        refine i_iald rfl rfl (by first | omega | assumption) (by first | omega | assumption) (by decide) ?_
        refine i_icmp_gt_f rfl (by first | omega | assumption) ?_
        refine i_aload_n rfl rfl ?_
        refine i_getr rfl rfl rfl rfl (by decide) rfl ?_
        refine i_iload rfl rfl ?_
        refine i_iald rfl rfl (by first | omega | assumption) (by first | omega | assumption) (by decide) ?_
        refine i_aload_n rfl rfl ?_
        refine i_getr rfl rfl rfl rfl (by decide) rfl ?_
        refine i_iload rfl rfl ?_
        refine i_bipush (n := 7) rfl (by unfold iR; omega) (by decide) ?_
        refine i_isub rfl (by unfold iR; omega) ?_
        refine i_iald rfl rfl (by first | omega | assumption) (by first | omega | assumption) (by decide) ?_
        refine i_icmp_ne_t rfl (by first | omega | assumption) ?_
        refine i_iconst (n := 0) rfl (by unfold iR; omega) ?_
        -- at 211
        exact hq
def gdp (T : Nat → Int) (k : Nat) : Prop := T (1 + 7 * k) < 8 ∧ 0 < T (1 + (7 * k + 1)) ∧ T (1 + (7 * k + 5)) ≤ 24 ∧ (2 ≤ T (1 + (7 * k + 2)) ∧ 1 ≤ T (1 + (7 * k + 3)) ∧ T (1 + (7 * k + 2)) + T (1 + (7 * k + 3)) ≤ 48)
set_option maxRecDepth 100000 in
theorem d_tkS2 {b : Bool} {M : iM} {s first n files : Int} {k : Nat} {l7 l8 : Option iV} {q : Option Int × List zS × iM} (hk : k < 10) (hb : ∀ u, u < 7 → 0 ≤ M 60 (1 + (7 * k + u)) ∧ M 60 (1 + (7 * k + u)) < 256)
    (hq : irun none zp_139 306 [some (iP 40), some (iI s), some (iI first), some (iI n), some (iI files), some (iI (k : Int)), some (iI (1 + 7 * (k : Int))), l7, l8] [iI (bz (gdp (M 60) k))] (SH b) M 0 0 q) :
    irun none zp_139 213 [some (iP 40), some (iI s), some (iI first), some (iI n), some (iI files), some (iI (k : Int)), some (iI (1 + 7 * (k : Int))), l7, l8] [] (SH b) M 0 0 q := by
  have E0 : (1 + 7 * (k : Int)).toNat = 1 + 7 * k := by omega
  have E1 : (1 + 7 * (k : Int) + 1).toNat = 1 + (7 * k + 1) := by omega
  have E2 : (1 + 7 * (k : Int) + 2).toNat = 1 + (7 * k + 2) := by omega
  have E3 : (1 + 7 * (k : Int) + 3).toNat = 1 + (7 * k + 3) := by omega
  have E5 : (1 + 7 * (k : Int) + 5).toNat = 1 + (7 * k + 5) := by omega
  have b2 := hb 2 (by decide)
  have b3 := hb 3 (by decide)
  rw [← E2] at b2
  rw [← E3] at b3
  by_cases c0 : M 60 (1 + 7 * k) < 8
  · by_cases c1 : 0 < M 60 (1 + (7 * k + 1))
    · by_cases c5 : M 60 (1 + (7 * k + 5)) ≤ 24
      · by_cases c2 : 2 ≤ M 60 (1 + (7 * k + 2))
        · by_cases c3 : 1 ≤ M 60 (1 + (7 * k + 3))
          · by_cases c4 : M 60 (1 + (7 * k + 2)) + M 60 (1 + (7 * k + 3)) ≤ 48
            · rw [bz_t (show gdp _ _ from ⟨c0, c1, c5, c2, c3, c4⟩)] at hq
              rw [← E2, ← E3] at c4
              rw [← E0] at c0
              rw [← E1] at c1
              rw [← E2] at c2
              rw [← E3] at c3
              rw [← E5] at c5
              refine i_aload_n rfl rfl ?_
              refine i_getr rfl rfl rfl rfl (by decide) rfl ?_
              refine i_iload rfl rfl ?_
              refine i_iald rfl rfl (by first | omega | assumption) (by first | omega | assumption) (by decide) ?_
              refine i_bipush (n := 7) rfl (by unfold iR; omega) (by decide) ?_
              refine i_icmp_gt_f rfl (by first | omega | assumption) ?_
              refine i_aload_n rfl rfl ?_
              refine i_getr rfl rfl rfl rfl (by decide) rfl ?_
              refine i_iload rfl rfl ?_
              refine i_iconst (n := 1) rfl (by unfold iR; omega) ?_
              refine i_iadd rfl (by unfold iR; omega) ?_
              refine i_iald rfl rfl (by first | omega | assumption) (by first | omega | assumption) (by decide) ?_
              refine i_if_le_f rfl (by first | omega | assumption) ?_
              refine i_aload_n rfl rfl ?_
              refine i_getr rfl rfl rfl rfl (by decide) rfl ?_
              refine i_iload rfl rfl ?_
              refine i_iconst (n := 5) rfl (by unfold iR; omega) ?_
              refine i_iadd rfl (by unfold iR; omega) ?_
              refine i_iald rfl rfl (by first | omega | assumption) (by first | omega | assumption) (by decide) ?_
              refine i_bipush (n := 24) rfl (by unfold iR; omega) (by decide) ?_
              refine i_icmp_gt_f rfl (by first | omega | assumption) ?_
              refine i_aload_n rfl rfl ?_
              refine i_getr rfl rfl rfl rfl (by decide) rfl ?_
              refine i_iload rfl rfl ?_
              refine i_iconst (n := 2) rfl (by unfold iR; omega) ?_
              refine i_iadd rfl (by unfold iR; omega) ?_
              refine i_iald rfl rfl (by first | omega | assumption) (by first | omega | assumption) (by decide) ?_
              refine i_iconst (n := 2) rfl (by unfold iR; omega) ?_
              refine i_icmp_lt_f rfl (by first | omega | assumption) ?_
              refine i_aload_n rfl rfl ?_
              refine i_getr rfl rfl rfl rfl (by decide) rfl ?_
              refine i_iload rfl rfl ?_
              refine i_iconst (n := 3) rfl (by unfold iR; omega) ?_
              refine i_iadd rfl (by unfold iR; omega) ?_
              refine i_iald rfl rfl (by first | omega | assumption) (by first | omega | assumption) (by decide) ?_
              refine i_iconst (n := 1) rfl (by unfold iR; omega) ?_
              refine i_icmp_lt_f rfl (by first | omega | assumption) ?_
              refine i_aload_n rfl rfl ?_
              refine i_getr rfl rfl rfl rfl (by decide) rfl ?_
              refine i_iload rfl rfl ?_
              refine i_iconst (n := 2) rfl (by unfold iR; omega) ?_
              refine i_iadd rfl (by unfold iR; omega) ?_
              refine i_iald rfl rfl (by first | omega | assumption) (by first | omega | assumption) (by decide) ?_
              refine i_aload_n rfl rfl ?_
              refine i_getr rfl rfl rfl rfl (by decide) rfl ?_
              refine i_iload rfl rfl ?_
              refine i_iconst (n := 3) rfl (by unfold iR; omega) ?_
              refine i_iadd rfl (by unfold iR; omega) ?_
              refine i_iald rfl rfl (by first | omega | assumption) (by first | omega | assumption) (by decide) ?_
              refine i_iadd rfl (by unfold iR; omega) ?_
              refine i_bipush (n := 48) rfl (by unfold iR; omega) (by decide) ?_
              refine i_icmp_gt_f rfl (by first | omega | assumption) ?_
              refine i_iconst (n := 1) rfl (by unfold iR; omega) ?_
              refine i_goto rfl ?_
              -- at 306
              exact hq
            · rw [bz_f (show ¬ gdp _ _ from fun q => c4 q.2.2.2.2.2)] at hq
              rw [← E2, ← E3] at c4
              rw [← E0] at c0
              rw [← E1] at c1
              rw [← E2] at c2
              rw [← E3] at c3
              rw [← E5] at c5
              refine i_aload_n rfl rfl ?_
              refine i_getr rfl rfl rfl rfl (by decide) rfl ?_
              refine i_iload rfl rfl ?_
              refine i_iald rfl rfl (by first | omega | assumption) (by first | omega | assumption) (by decide) ?_
              refine i_bipush (n := 7) rfl (by unfold iR; omega) (by decide) ?_
              refine i_icmp_gt_f rfl (by first | omega | assumption) ?_
              refine i_aload_n rfl rfl ?_
              refine i_getr rfl rfl rfl rfl (by decide) rfl ?_
              refine i_iload rfl rfl ?_
              refine i_iconst (n := 1) rfl (by unfold iR; omega) ?_
              refine i_iadd rfl (by unfold iR; omega) ?_
              refine i_iald rfl rfl (by first | omega | assumption) (by first | omega | assumption) (by decide) ?_
              refine i_if_le_f rfl (by first | omega | assumption) ?_
              refine i_aload_n rfl rfl ?_
              refine i_getr rfl rfl rfl rfl (by decide) rfl ?_
              refine i_iload rfl rfl ?_
              refine i_iconst (n := 5) rfl (by unfold iR; omega) ?_
              refine i_iadd rfl (by unfold iR; omega) ?_
              refine i_iald rfl rfl (by first | omega | assumption) (by first | omega | assumption) (by decide) ?_
              refine i_bipush (n := 24) rfl (by unfold iR; omega) (by decide) ?_
              refine i_icmp_gt_f rfl (by first | omega | assumption) ?_
              refine i_aload_n rfl rfl ?_
              refine i_getr rfl rfl rfl rfl (by decide) rfl ?_
              refine i_iload rfl rfl ?_
              refine i_iconst (n := 2) rfl (by unfold iR; omega) ?_
              refine i_iadd rfl (by unfold iR; omega) ?_
              refine i_iald rfl rfl (by first | omega | assumption) (by first | omega | assumption) (by decide) ?_
              refine i_iconst (n := 2) rfl (by unfold iR; omega) ?_
              refine i_icmp_lt_f rfl (by first | omega | assumption) ?_
              refine i_aload_n rfl rfl ?_
              refine i_getr rfl rfl rfl rfl (by decide) rfl ?_
              refine i_iload rfl rfl ?_
              refine i_iconst (n := 3) rfl (by unfold iR; omega) ?_
              refine i_iadd rfl (by unfold iR; omega) ?_
              refine i_iald rfl rfl (by first | omega | assumption) (by first | omega | assumption) (by decide) ?_
              refine i_iconst (n := 1) rfl (by unfold iR; omega) ?_
              refine i_icmp_lt_f rfl (by first | omega | assumption) ?_
              refine i_aload_n rfl rfl ?_
              refine i_getr rfl rfl rfl rfl (by decide) rfl ?_
              refine i_iload rfl rfl ?_
              refine i_iconst (n := 2) rfl (by unfold iR; omega) ?_
              refine i_iadd rfl (by unfold iR; omega) ?_
              refine i_iald rfl rfl (by first | omega | assumption) (by first | omega | assumption) (by decide) ?_
              refine i_aload_n rfl rfl ?_
              refine i_getr rfl rfl rfl rfl (by decide) rfl ?_
              refine i_iload rfl rfl ?_
              refine i_iconst (n := 3) rfl (by unfold iR; omega) ?_
              refine i_iadd rfl (by unfold iR; omega) ?_
              refine i_iald rfl rfl (by first | omega | assumption) (by first | omega | assumption) (by decide) ?_
              refine i_iadd rfl (by unfold iR; omega) ?_
              refine i_bipush (n := 48) rfl (by unfold iR; omega) (by decide) ?_
              refine i_icmp_gt_t rfl (by first | omega | assumption) ?_
              refine i_iconst (n := 0) rfl (by unfold iR; omega) ?_
              -- at 306
              exact hq
          · rw [bz_f (show ¬ gdp _ _ from fun q => c3 q.2.2.2.2.1)] at hq
            rw [← E0] at c0
            rw [← E1] at c1
            rw [← E2] at c2
            rw [← E3] at c3
            rw [← E5] at c5
            refine i_aload_n rfl rfl ?_
            refine i_getr rfl rfl rfl rfl (by decide) rfl ?_
            refine i_iload rfl rfl ?_
            refine i_iald rfl rfl (by first | omega | assumption) (by first | omega | assumption) (by decide) ?_
            refine i_bipush (n := 7) rfl (by unfold iR; omega) (by decide) ?_
            refine i_icmp_gt_f rfl (by first | omega | assumption) ?_
            refine i_aload_n rfl rfl ?_
            refine i_getr rfl rfl rfl rfl (by decide) rfl ?_
            refine i_iload rfl rfl ?_
            refine i_iconst (n := 1) rfl (by unfold iR; omega) ?_
            refine i_iadd rfl (by unfold iR; omega) ?_
            refine i_iald rfl rfl (by first | omega | assumption) (by first | omega | assumption) (by decide) ?_
            refine i_if_le_f rfl (by first | omega | assumption) ?_
            refine i_aload_n rfl rfl ?_
            refine i_getr rfl rfl rfl rfl (by decide) rfl ?_
            refine i_iload rfl rfl ?_
            refine i_iconst (n := 5) rfl (by unfold iR; omega) ?_
            refine i_iadd rfl (by unfold iR; omega) ?_
            refine i_iald rfl rfl (by first | omega | assumption) (by first | omega | assumption) (by decide) ?_
            refine i_bipush (n := 24) rfl (by unfold iR; omega) (by decide) ?_
            refine i_icmp_gt_f rfl (by first | omega | assumption) ?_
            refine i_aload_n rfl rfl ?_
            refine i_getr rfl rfl rfl rfl (by decide) rfl ?_
            refine i_iload rfl rfl ?_
            refine i_iconst (n := 2) rfl (by unfold iR; omega) ?_
            refine i_iadd rfl (by unfold iR; omega) ?_
            refine i_iald rfl rfl (by first | omega | assumption) (by first | omega | assumption) (by decide) ?_
            refine i_iconst (n := 2) rfl (by unfold iR; omega) ?_
            refine i_icmp_lt_f rfl (by first | omega | assumption) ?_
            refine i_aload_n rfl rfl ?_
            refine i_getr rfl rfl rfl rfl (by decide) rfl ?_
            refine i_iload rfl rfl ?_
            refine i_iconst (n := 3) rfl (by unfold iR; omega) ?_
            refine i_iadd rfl (by unfold iR; omega) ?_
            refine i_iald rfl rfl (by first | omega | assumption) (by first | omega | assumption) (by decide) ?_
            refine i_iconst (n := 1) rfl (by unfold iR; omega) ?_
            refine i_icmp_lt_t rfl (by first | omega | assumption) ?_
            refine i_iconst (n := 0) rfl (by unfold iR; omega) ?_
            -- at 306
            exact hq
        · rw [bz_f (show ¬ gdp _ _ from fun q => c2 q.2.2.2.1)] at hq
          rw [← E0] at c0
          rw [← E1] at c1
          rw [← E2] at c2
          rw [← E5] at c5
          refine i_aload_n rfl rfl ?_
          refine i_getr rfl rfl rfl rfl (by decide) rfl ?_
          refine i_iload rfl rfl ?_
          refine i_iald rfl rfl (by first | omega | assumption) (by first | omega | assumption) (by decide) ?_
          refine i_bipush (n := 7) rfl (by unfold iR; omega) (by decide) ?_
          refine i_icmp_gt_f rfl (by first | omega | assumption) ?_
          refine i_aload_n rfl rfl ?_
          refine i_getr rfl rfl rfl rfl (by decide) rfl ?_
          refine i_iload rfl rfl ?_
          refine i_iconst (n := 1) rfl (by unfold iR; omega) ?_
          refine i_iadd rfl (by unfold iR; omega) ?_
          refine i_iald rfl rfl (by first | omega | assumption) (by first | omega | assumption) (by decide) ?_
          refine i_if_le_f rfl (by first | omega | assumption) ?_
          refine i_aload_n rfl rfl ?_
          refine i_getr rfl rfl rfl rfl (by decide) rfl ?_
          refine i_iload rfl rfl ?_
          refine i_iconst (n := 5) rfl (by unfold iR; omega) ?_
          refine i_iadd rfl (by unfold iR; omega) ?_
          refine i_iald rfl rfl (by first | omega | assumption) (by first | omega | assumption) (by decide) ?_
          refine i_bipush (n := 24) rfl (by unfold iR; omega) (by decide) ?_
          refine i_icmp_gt_f rfl (by first | omega | assumption) ?_
          refine i_aload_n rfl rfl ?_
          refine i_getr rfl rfl rfl rfl (by decide) rfl ?_
          refine i_iload rfl rfl ?_
          refine i_iconst (n := 2) rfl (by unfold iR; omega) ?_
          refine i_iadd rfl (by unfold iR; omega) ?_
          refine i_iald rfl rfl (by first | omega | assumption) (by first | omega | assumption) (by decide) ?_
          refine i_iconst (n := 2) rfl (by unfold iR; omega) ?_
          refine i_icmp_lt_t rfl (by first | omega | assumption) ?_
          refine i_iconst (n := 0) rfl (by unfold iR; omega) ?_
          -- at 306
          exact hq
      · rw [bz_f (show ¬ gdp _ _ from fun q => c5 q.2.2.1)] at hq
        rw [← E0] at c0
        rw [← E1] at c1
        rw [← E5] at c5
        refine i_aload_n rfl rfl ?_
        refine i_getr rfl rfl rfl rfl (by decide) rfl ?_
        refine i_iload rfl rfl ?_
        refine i_iald rfl rfl (by first | omega | assumption) (by first | omega | assumption) (by decide) ?_
        refine i_bipush (n := 7) rfl (by unfold iR; omega) (by decide) ?_
        refine i_icmp_gt_f rfl (by first | omega | assumption) ?_
        refine i_aload_n rfl rfl ?_
        refine i_getr rfl rfl rfl rfl (by decide) rfl ?_
        refine i_iload rfl rfl ?_
        refine i_iconst (n := 1) rfl (by unfold iR; omega) ?_
        refine i_iadd rfl (by unfold iR; omega) ?_
        refine i_iald rfl rfl (by first | omega | assumption) (by first | omega | assumption) (by decide) ?_
        refine i_if_le_f rfl (by first | omega | assumption) ?_
        refine i_aload_n rfl rfl ?_
        refine i_getr rfl rfl rfl rfl (by decide) rfl ?_
        refine i_iload rfl rfl ?_
        refine i_iconst (n := 5) rfl (by unfold iR; omega) ?_
        refine i_iadd rfl (by unfold iR; omega) ?_
        refine i_iald rfl rfl (by first | omega | assumption) (by first | omega | assumption) (by decide) ?_
        refine i_bipush (n := 24) rfl (by unfold iR; omega) (by decide) ?_
        refine i_icmp_gt_t rfl (by first | omega | assumption) ?_
        refine i_iconst (n := 0) rfl (by unfold iR; omega) ?_
        -- at 306
        exact hq
    · rw [bz_f (show ¬ gdp _ _ from fun q => c1 q.2.1)] at hq
      rw [← E0] at c0
      rw [← E1] at c1
      refine i_aload_n rfl rfl ?_
      refine i_getr rfl rfl rfl rfl (by decide) rfl ?_
      refine i_iload rfl rfl ?_
      refine i_iald rfl rfl (by first | omega | assumption) (by first | omega | assumption) (by decide) ?_
      refine i_bipush (n := 7) rfl (by unfold iR; omega) (by decide) ?_
      refine i_icmp_gt_f rfl (by first | omega | assumption) ?_
      refine i_aload_n rfl rfl ?_
      refine i_getr rfl rfl rfl rfl (by decide) rfl ?_
      refine i_iload rfl rfl ?_
      refine i_iconst (n := 1) rfl (by unfold iR; omega) ?_
      refine i_iadd rfl (by unfold iR; omega) ?_
      refine i_iald rfl rfl (by first | omega | assumption) (by first | omega | assumption) (by decide) ?_
      refine i_if_le_t rfl (by first | omega | assumption) ?_
      refine i_iconst (n := 0) rfl (by unfold iR; omega) ?_
      -- at 306
      exact hq
  · rw [bz_f (show ¬ gdp _ _ from fun q => c0 q.1)] at hq
    rw [← E0] at c0
    refine i_aload_n rfl rfl ?_
    refine i_getr rfl rfl rfl rfl (by decide) rfl ?_
    refine i_iload rfl rfl ?_
    refine i_iald rfl rfl (by first | omega | assumption) (by first | omega | assumption) (by decide) ?_
    refine i_bipush (n := 7) rfl (by unfold iR; omega) (by decide) ?_
    refine i_icmp_gt_t rfl (by first | omega | assumption) ?_
    refine i_iconst (n := 0) rfl (by unfold iR; omega) ?_
    -- at 306
    exact hq
theorem en_gdp {T : Nat → Int} {k : Nat} : en (fun j => T (1 + j)) k ↔ (k = 0 ∨ ls (fun j => T (1 + j)) (k - 1) (T (1 + 7 * k)) (T (1 + (7 * k + 1)))) ∧ gdp T k := by
  constructor
  · rintro ⟨a, b, c, d, e⟩
    exact ⟨e, a, b, c, d⟩
  · rintro ⟨e, a, b, c, d⟩
    exact ⟨a, b, c, d, e⟩
set_option maxRecDepth 100000 in
theorem d_isTaken {b : Bool} {M : iM} {s : Nat} (hs : s < 48) (hf : by8 (M 41) 720) :
    ∃ M', irun none zp_139 0 (i_ent [iP 40, iI (s : Int)] 9) [] (SH b) M 0 0 (some (bz (tk (M 41) s)), SH b, M') ∧ Fr [51, 60] M M' ∧ (tk (M 41) s → M' 60 0 = cn (M 41) s ∧ ∀ j : Nat, (j : Int) < 7 * cn (M 41) s → M' 60 (1 + j) = tw (M 41) s j) := by
  have b3 := rd_b (s := s) (k := 3) hf hs (by decide)
  have b4 := rd_b (s := s) (k := 4) hf hs (by decide)
  obtain ⟨M1, h1, f1, g1⟩ := d_readF (b := b) (M := M) hs hf
  rcases rk_01 (M 41) s with hr | hr
  · refine ⟨M1, ?_, Fr_t (Fr_r _ _) f1 (by simp), fun q => by have := q.1; omega⟩
    rw [bz_f (fun q => by have := q.1; omega)]
    refine i_aload_n rfl rfl ?_
    refine i_iload_n rfl rfl ?_
    -- at 2
    refine i_call (T := (115, zp_115)) rfl rfl (h1) rfl rfl rfl rfl rfl rfl rfl ?_
    try dsimp only
    show irun none zp_139 5 _ (iI (rk (M 41) s) :: _) _ _ 0 0 _
    rw [hr]
    refine i_if_eq_t rfl (by first | omega | assumption) ?_
    refine i_iconst (n := 0) rfl (by unfold iR; omega) ?_
    -- at 31
    exact i_zreturn rfl rfl (by first | omega | assumption)
  · have g1 := g1 hr
    by_cases c0 : rd (M 41) s 0 = 83
    · by_cases c1 : rd (M 41) s 1 = 65
      · have hpre : ∀ q, irun none zp_139 53 [some (iP 40), some (iI (s : Int)), some (iI (rd (M 41) s 3)), some (iI (rd (M 41) s 4)), none, none, none, none, none] [] (SH b) (i_st M1 60 0 0) 0 0 q → irun none zp_139 0 (i_ent [iP 40, iI (s : Int)] 9) [] (SH b) M 0 0 q := by
          intro q hq
          refine i_aload_n rfl rfl ?_
          refine i_iload_n rfl rfl ?_
          -- at 2
          refine i_call (T := (115, zp_115)) rfl rfl (h1) rfl rfl rfl rfl rfl rfl rfl ?_
          try dsimp only
          show irun none zp_139 5 _ (iI (rk (M 41) s) :: _) _ _ 0 0 _
          rw [hr]
          refine i_if_eq_f rfl (by first | omega | assumption) ?_
          refine i_aload_n rfl rfl ?_
          refine i_getr rfl rfl rfl rfl (by decide) rfl ?_
          refine i_iconst (n := 0) rfl (by unfold iR; omega) ?_
          refine i_iald rfl rfl (by first | omega | assumption) (by first | omega | assumption) (by decide) ?_
          -- at 14
          show irun none zp_139 14 _ (iI (M1 51 0) :: _) _ _ 0 0 _
          rw [g1 0 (by decide)]
          refine i_bipush (n := 83) rfl (by unfold iR; omega) (by decide) ?_
          refine i_icmp_ne_f rfl (by first | omega | assumption) ?_
          refine i_aload_n rfl rfl ?_
          refine i_getr rfl rfl rfl rfl (by decide) rfl ?_
          refine i_iconst (n := 1) rfl (by unfold iR; omega) ?_
          refine i_iald rfl rfl (by first | omega | assumption) (by first | omega | assumption) (by decide) ?_
          -- at 25
          show irun none zp_139 25 _ (iI (M1 51 1) :: _) _ _ 0 0 _
          rw [g1 1 (by decide)]
          refine i_bipush (n := 65) rfl (by unfold iR; omega) (by decide) ?_
          refine i_icmp_eq_t rfl (by first | omega | assumption) ?_
          refine i_aload_n rfl rfl ?_
          refine i_getr rfl rfl rfl rfl (by decide) rfl ?_
          refine i_iconst (n := 3) rfl (by unfold iR; omega) ?_
          refine i_iald rfl rfl (by first | omega | assumption) (by first | omega | assumption) (by decide) ?_
          -- at 38
          show irun none zp_139 38 _ (iI (M1 51 3) :: _) _ _ 0 0 _
          rw [g1 3 (by decide)]
          refine i_istore_n rfl (Nat.le_of_ble_eq_true rfl) rfl ?_
          refine i_aload_n rfl rfl ?_
          refine i_getr rfl rfl rfl rfl (by decide) rfl ?_
          refine i_iconst (n := 4) rfl (by unfold iR; omega) ?_
          refine i_iald rfl rfl (by first | omega | assumption) (by first | omega | assumption) (by decide) ?_
          -- at 45
          show irun none zp_139 45 _ (iI (M1 51 4) :: _) _ _ 0 0 _
          rw [g1 4 (by decide)]
          refine i_istore_n rfl (Nat.le_of_ble_eq_true rfl) rfl ?_
          refine i_aload_n rfl rfl ?_
          refine i_getr rfl rfl rfl rfl (by decide) rfl ?_
          refine i_iconst (n := 0) rfl (by unfold iR; omega) ?_
          refine i_iconst (n := 0) rfl (by unfold iR; omega) ?_
          refine i_iast rfl rfl (by first | omega | assumption) (by first | omega | assumption) ?_
          -- at 53
          exact hq
        have f2 : Fr [51, 60] M (i_st M1 60 0 0) := Fr_st (Fr_t (Fr_r _ _) f1 (by simp)) (by simp)
        have e41 : (i_st M1 60 0 0) 41 = M 41 := f2 41 (by decide)
        by_cases h0 : rd (M 41) s 4 = 0
        · refine ⟨i_st M1 60 0 0, hpre _ ?_, f2, fun q => ⟨?_, fun j hj => ?_⟩⟩
          · rw [bz_t (show tk _ _ from ⟨hr, ⟨c0, c1⟩, Or.inl h0⟩)]
            refine i_iload_n rfl rfl ?_
            refine i_if_ne_f rfl (by first | omega | assumption) ?_
            refine i_iconst (n := 1) rfl (by unfold iR; omega) ?_
            -- at 58
            exact i_zreturn rfl rfl (by first | omega | assumption)
          · unfold cn
            rw [if_pos h0]
            rfl
          · unfold cn at hj
            rw [if_pos h0] at hj
            omega
        · by_cases hq : 2 ≤ rd (M 41) s 3 ∧ rd (M 41) s 3 + rd (M 41) s 4 ≤ 48
          · obtain ⟨M3, h3, f3, g3⟩ := d_loadF (b := b) (M := i_st M1 60 0 0) (first := (rd (M 41) s 3).toNat) (cnt := (rd (M 41) s 4).toNat) (by omega) (by omega) (by rw [e41]; exact hf)
            rw [e41] at h3 g3
            rw [show (((rd (M 41) s 3).toNat : Nat) : Int) = rd (M 41) s 3 by omega, show (((rd (M 41) s 4).toNat : Nat) : Int) = rd (M 41) s 4 by omega] at h3
            have fr3 := Fr_t f2 f3 (by simp)
            rcases lkN_01 (M 41) (rd (M 41) s 3).toNat (rd (M 41) s 4).toNat with hl | hl
            · have nt : ¬ tk (M 41) s := by
                rintro ⟨-, -, q | ⟨-, -, q, -⟩⟩
                · exact h0 q
                · omega
              refine ⟨M3, hpre _ ?_, fr3, fun q => absurd q nt⟩
              rw [bz_f nt]
              refine i_iload_n rfl rfl ?_
              refine i_if_ne_t rfl (by first | omega | assumption) ?_
              refine i_iload_n rfl rfl ?_
              refine i_iconst (n := 2) rfl (by unfold iR; omega) ?_
              refine i_icmp_lt_f rfl (by first | omega | assumption) ?_
              refine i_iload_n rfl rfl ?_
              refine i_iload_n rfl rfl ?_
              refine i_iadd rfl (by unfold iR; omega) ?_
              refine i_bipush (n := 48) rfl (by unfold iR; omega) (by decide) ?_
              refine i_icmp_gt_f rfl (by first | omega | assumption) ?_
              refine i_aload_n rfl rfl ?_
              refine i_iload_n rfl rfl ?_
              refine i_iload_n rfl rfl ?_
              -- at 75
              refine i_call (T := (138, zp_138)) rfl rfl (h3) rfl rfl rfl rfl rfl rfl rfl ?_
              try dsimp only
              show irun none zp_139 78 _ (iI (lkN (M 41) (rd (M 41) s 3).toNat (rd (M 41) s 4).toNat) :: _) _ _ 0 0 _
              rw [hl]
              refine i_if_ne_f rfl (by first | omega | assumption) ?_
              refine i_iconst (n := 0) rfl (by unfold iR; omega) ?_
              -- at 82
              exact i_zreturn rfl rfl (by first | omega | assumption)
            · have g3 := g3 hl
              have hb : ∀ j : Nat, (j : Int) < 11 * rd (M 41) s 4 → 0 ≤ M3 60 j ∧ M3 60 j < 256 := by
                intro j hj
                rw [g3 j (by omega)]
                exact rd_b hf (by omega) (by omega)
              have hes : es (M3 60) (11 * rd (M 41) s 4) ↔ es (Rd (M 41) (rd (M 41) s 3).toNat) (11 * rd (M 41) s 4) := es_c (fun j hj => g3 j (by omega)) (by omega)
              have htk : es (M3 60) (11 * rd (M 41) s 4) ↔ tk (M 41) s := by
                rw [hes]
                constructor
                · intro q
                  exact ⟨hr, ⟨c0, c1⟩, Or.inr ⟨h0, hq, hl, q⟩⟩
                · rintro ⟨-, -, q | ⟨-, -, -, q⟩⟩
                  · exact absurd q h0
                  · exact q
              have hc0 := hb 0 (by omega)
              refine ⟨M3, hpre _ ?_, fr3, fun q => ?_⟩
              · rw [← bz_c htk]
                refine i_iload_n rfl rfl ?_
                refine i_if_ne_t rfl (by first | omega | assumption) ?_
                refine i_iload_n rfl rfl ?_
                refine i_iconst (n := 2) rfl (by unfold iR; omega) ?_
                refine i_icmp_lt_f rfl (by first | omega | assumption) ?_
                refine i_iload_n rfl rfl ?_
                refine i_iload_n rfl rfl ?_
                refine i_iadd rfl (by unfold iR; omega) ?_
                refine i_bipush (n := 48) rfl (by unfold iR; omega) (by decide) ?_
                refine i_icmp_gt_f rfl (by first | omega | assumption) ?_
                refine i_aload_n rfl rfl ?_
                refine i_iload_n rfl rfl ?_
                refine i_iload_n rfl rfl ?_
                -- at 75
                refine i_call (T := (138, zp_138)) rfl rfl (h3) rfl rfl rfl rfl rfl rfl rfl ?_
                try dsimp only
                show irun none zp_139 78 _ (iI (lkN (M 41) (rd (M 41) s 3).toNat (rd (M 41) s 4).toNat) :: _) _ _ 0 0 _
                rw [hl]
                refine i_if_ne_t rfl (by first | omega | assumption) ?_
                refine i_aload_n rfl rfl ?_
                refine i_getr rfl rfl rfl rfl (by decide) rfl ?_
                refine i_iconst (n := 0) rfl (by unfold iR; omega) ?_
                refine i_iald rfl rfl (by first | omega | assumption) (by first | omega | assumption) (by decide) ?_
                -- at 89
                show irun none zp_139 89 _ (iI (M3 60 0) :: _) _ _ 0 0 _
                by_cases d1 : M3 60 0 < 1
                · rw [bz_f (fun q => by have := q.1; omega)]
                  refine i_istore rfl (Nat.le_of_ble_eq_true rfl) rfl ?_
                  refine i_iload rfl rfl ?_
                  refine i_iconst (n := 1) rfl (by unfold iR; omega) ?_
                  refine i_icmp_lt_t rfl (by first | omega | assumption) ?_
                  refine i_iconst (n := 0) rfl (by unfold iR; omega) ?_
                  -- at 119
                  exact i_zreturn rfl rfl (by first | omega | assumption)
                · by_cases d2 : 10 < M3 60 0
                  · rw [bz_f (fun q => by have := q.2.1; omega)]
                    refine i_istore rfl (Nat.le_of_ble_eq_true rfl) rfl ?_
                    refine i_iload rfl rfl ?_
                    refine i_iconst (n := 1) rfl (by unfold iR; omega) ?_
                    refine i_icmp_lt_f rfl (by first | omega | assumption) ?_
                    refine i_iload rfl rfl ?_
                    refine i_bipush (n := 10) rfl (by unfold iR; omega) (by decide) ?_
                    refine i_icmp_gt_t rfl (by first | omega | assumption) ?_
                    refine i_iconst (n := 0) rfl (by unfold iR; omega) ?_
                    -- at 119
                    exact i_zreturn rfl rfl (by first | omega | assumption)
                  · by_cases d3 : 1 + 7 * M3 60 0 ≤ 11 * rd (M 41) s 4
                    · obtain ⟨n, hn⟩ := Int.eq_ofNat_of_zero_le (show 0 ≤ M3 60 0 by omega)
                      have loop : ∀ (c k : Nat), k + c = n → (∀ i, i < k → en (fun j => M3 60 (1 + j)) i) → ∀ l6 l7 l8 : Option iV, i_free [some (iP 40), some (iI (s : Int)), some (iI (rd (M 41) s 3)), some (iI (rd (M 41) s 4)), some (iI (M3 60 0)), some (iI (k : Int)), l6, l7, l8] 7 = true → i_free [some (iP 40), some (iI (s : Int)), some (iI (rd (M 41) s 3)), some (iI (rd (M 41) s 4)), some (iI (M3 60 0)), some (iI (k : Int)), l6, l7, l8] 8 = true → irun none zp_139 123 [some (iP 40), some (iI (s : Int)), some (iI (rd (M 41) s 3)), some (iI (rd (M 41) s 4)), some (iI (M3 60 0)), some (iI (k : Int)), l6, l7, l8] [] (SH b) M3 0 0 (some (bz (es (M3 60) (11 * rd (M 41) s 4))), SH b, M3) := by
                        intro c
                        induction c with
                        | zero =>
                          intro k hk hall l6 l7 l8 z7 z8
                          obtain rfl : k = n := by omega
                          rw [bz_t (show es _ _ from ⟨by omega, by omega, by omega, fun i hi => hall i (by omega)⟩)]
                          refine i_iload rfl rfl ?_
                          refine i_iload rfl rfl ?_
                          refine i_icmp_ge_t rfl (by first | omega | assumption) ?_
                          refine i_iconst (n := 1) rfl (by unfold iR; omega) ?_
                          -- at 327
                          exact i_zreturn rfl rfl (by first | omega | assumption)
                        | succ c ih =>
                          intro k hk hall l6 l7 l8 z7 z8
                          have hen := en_gdp (T := M3 60) (k := k)
                          refine i_iload rfl rfl ?_
                          refine i_iload rfl rfl ?_
                          refine i_icmp_ge_f rfl (by first | omega | assumption) ?_
                          refine i_iconst (n := 1) rfl (by unfold iR; omega) ?_
                          refine i_bipush (n := 7) rfl (by unfold iR; omega) (by decide) ?_
                          refine i_iload rfl rfl ?_
                          refine i_imul rfl (by unfold iR; omega) ?_
                          refine i_iadd rfl (by unfold iR; omega) ?_
                          refine i_istore rfl (Nat.le_of_ble_eq_true rfl) rfl ?_
                          -- at 139
                          refine d_tkS1 (by omega) ?_
                          refine i_istore rfl (Nat.le_of_ble_eq_true rfl) rfl ?_
                          refine d_tkS2 (by omega) (fun u hu => hb _ (by omega)) ?_
                          refine i_istore rfl (Nat.le_of_ble_eq_true rfl) rfl ?_
                          by_cases p1 : (k = 0 ∨ ls (fun j => M3 60 (1 + j)) (k - 1) (M3 60 (1 + 7 * k)) (M3 60 (1 + (7 * k + 1))))
                          · by_cases p2 : gdp (M3 60) k
                            · rw [bz_t p1, bz_t p2]
                              have hnx := ih (k + 1) (by omega) (fun i hi => by
                                by_cases e : i = k
                                · rw [e]; exact hen.mpr ⟨p1, p2⟩
                                · exact hall i (by omega)) (some (iI (1 + 7 * (k : Int)))) (some (iI 1)) (some (iI 1)) rfl rfl
                              refine i_iload rfl rfl ?_
                              refine i_if_eq_f rfl (by first | omega | assumption) ?_
                              refine i_iload rfl rfl ?_
                              refine i_if_ne_t rfl (by first | omega | assumption) ?_
                              refine i_iinc rfl rfl (by unfold iR; omega) (Nat.le_of_ble_eq_true rfl) rfl ?_
                              refine i_goto rfl ?_
                              -- at 123
                              exact hnx
                            · rw [bz_t p1, bz_f p2, bz_f (p := es _ _) (fun q => p2 (hen.mp (q.2.2.2 k (by omega))).2)]
                              refine i_iload rfl rfl ?_
                              refine i_if_eq_f rfl (by first | omega | assumption) ?_
                              refine i_iload rfl rfl ?_
                              refine i_if_ne_f rfl (by first | omega | assumption) ?_
                              refine i_iconst (n := 0) rfl (by unfold iR; omega) ?_
                              -- at 319
                              exact i_zreturn rfl rfl (by first | omega | assumption)
                          · rw [bz_f p1, bz_f (p := es _ _) (fun q => p1 (hen.mp (q.2.2.2 k (by omega))).1)]
                            refine i_iload rfl rfl ?_
                            refine i_if_eq_t rfl (by first | omega | assumption) ?_
                            refine i_iconst (n := 0) rfl (by unfold iR; omega) ?_
                            -- at 319
                            exact i_zreturn rfl rfl (by first | omega | assumption)
                      refine i_istore rfl (Nat.le_of_ble_eq_true rfl) rfl ?_
                      refine i_iload rfl rfl ?_
                      refine i_iconst (n := 1) rfl (by unfold iR; omega) ?_
                      refine i_icmp_lt_f rfl (by first | omega | assumption) ?_
                      refine i_iload rfl rfl ?_
                      refine i_bipush (n := 10) rfl (by unfold iR; omega) (by decide) ?_
                      refine i_icmp_gt_f rfl (by first | omega | assumption) ?_
                      refine i_iconst (n := 1) rfl (by unfold iR; omega) ?_
                      refine i_bipush (n := 7) rfl (by unfold iR; omega) (by decide) ?_
                      refine i_iload rfl rfl ?_
                      refine i_imul rfl (by unfold iR; omega) ?_
                      refine i_iadd rfl (by unfold iR; omega) ?_
                      refine i_bipush (n := 11) rfl (by unfold iR; omega) (by decide) ?_
                      refine i_iload_n rfl rfl ?_
                      refine i_imul rfl (by unfold iR; omega) ?_
                      refine i_icmp_le_t rfl (by first | omega | assumption) ?_
                      refine i_iconst (n := 0) rfl (by unfold iR; omega) ?_
                      refine i_istore rfl (Nat.le_of_ble_eq_true rfl) rfl ?_
                      -- at 123
                      exact loop n 0 (by omega) (fun i hi => by omega) none none none rfl rfl
                    · rw [bz_f (fun q => d3 q.2.2.1)]
                      refine i_istore rfl (Nat.le_of_ble_eq_true rfl) rfl ?_
                      refine i_iload rfl rfl ?_
                      refine i_iconst (n := 1) rfl (by unfold iR; omega) ?_
                      refine i_icmp_lt_f rfl (by first | omega | assumption) ?_
                      refine i_iload rfl rfl ?_
                      refine i_bipush (n := 10) rfl (by unfold iR; omega) (by decide) ?_
                      refine i_icmp_gt_f rfl (by first | omega | assumption) ?_
                      refine i_iconst (n := 1) rfl (by unfold iR; omega) ?_
                      refine i_bipush (n := 7) rfl (by unfold iR; omega) (by decide) ?_
                      refine i_iload rfl rfl ?_
                      refine i_imul rfl (by unfold iR; omega) ?_
                      refine i_iadd rfl (by unfold iR; omega) ?_
                      refine i_bipush (n := 11) rfl (by unfold iR; omega) (by decide) ?_
                      refine i_iload_n rfl rfl ?_
                      refine i_imul rfl (by unfold iR; omega) ?_
                      refine i_icmp_le_f rfl (by first | omega | assumption) ?_
                      refine i_iconst (n := 0) rfl (by unfold iR; omega) ?_
                      -- at 119
                      exact i_zreturn rfl rfl (by first | omega | assumption)
              · obtain ⟨q1, q2, q3, -⟩ := htk.mpr q
                have e0 : M3 60 0 = cn (M 41) s := by
                  rw [g3 0 (by omega)]
                  unfold cn
                  rw [if_neg h0]
                refine ⟨e0, fun j hj => ?_⟩
                rw [← e0] at hj
                rw [g3 (1 + j) (by omega)]
                rfl
          · have nt : ¬ tk (M 41) s := by
              rintro ⟨-, -, q | ⟨-, q, -⟩⟩
              · exact h0 q
              · exact hq q
            refine ⟨i_st M1 60 0 0, hpre _ ?_, f2, fun q => absurd q nt⟩
            rw [bz_f nt]
            by_cases d1 : rd (M 41) s 3 < 2
            · refine i_iload_n rfl rfl ?_
              refine i_if_ne_t rfl (by first | omega | assumption) ?_
              refine i_iload_n rfl rfl ?_
              refine i_iconst (n := 2) rfl (by unfold iR; omega) ?_
              refine i_icmp_lt_t rfl (by first | omega | assumption) ?_
              refine i_iconst (n := 0) rfl (by unfold iR; omega) ?_
              -- at 82
              exact i_zreturn rfl rfl (by first | omega | assumption)
            · refine i_iload_n rfl rfl ?_
              refine i_if_ne_t rfl (by first | omega | assumption) ?_
              refine i_iload_n rfl rfl ?_
              refine i_iconst (n := 2) rfl (by unfold iR; omega) ?_
              refine i_icmp_lt_f rfl (by first | omega | assumption) ?_
              refine i_iload_n rfl rfl ?_
              refine i_iload_n rfl rfl ?_
              refine i_iadd rfl (by unfold iR; omega) ?_
              refine i_bipush (n := 48) rfl (by unfold iR; omega) (by decide) ?_
              refine i_icmp_gt_t rfl (by first | omega | assumption) ?_
              refine i_iconst (n := 0) rfl (by unfold iR; omega) ?_
              -- at 82
              exact i_zreturn rfl rfl (by first | omega | assumption)
      · refine ⟨M1, ?_, Fr_t (Fr_r _ _) f1 (by simp), fun q => absurd q.2.1.2 c1⟩
        rw [bz_f (fun q => c1 q.2.1.2)]
        refine i_aload_n rfl rfl ?_
        refine i_iload_n rfl rfl ?_
        -- at 2
        refine i_call (T := (115, zp_115)) rfl rfl (h1) rfl rfl rfl rfl rfl rfl rfl ?_
        try dsimp only
        show irun none zp_139 5 _ (iI (rk (M 41) s) :: _) _ _ 0 0 _
        rw [hr]
        refine i_if_eq_f rfl (by first | omega | assumption) ?_
        refine i_aload_n rfl rfl ?_
        refine i_getr rfl rfl rfl rfl (by decide) rfl ?_
        refine i_iconst (n := 0) rfl (by unfold iR; omega) ?_
        refine i_iald rfl rfl (by first | omega | assumption) (by first | omega | assumption) (by decide) ?_
        -- at 14
        show irun none zp_139 14 _ (iI (M1 51 0) :: _) _ _ 0 0 _
        rw [g1 0 (by decide)]
        refine i_bipush (n := 83) rfl (by unfold iR; omega) (by decide) ?_
        refine i_icmp_ne_f rfl (by first | omega | assumption) ?_
        refine i_aload_n rfl rfl ?_
        refine i_getr rfl rfl rfl rfl (by decide) rfl ?_
        refine i_iconst (n := 1) rfl (by unfold iR; omega) ?_
        refine i_iald rfl rfl (by first | omega | assumption) (by first | omega | assumption) (by decide) ?_
        -- at 25
        show irun none zp_139 25 _ (iI (M1 51 1) :: _) _ _ 0 0 _
        rw [g1 1 (by decide)]
        refine i_bipush (n := 65) rfl (by unfold iR; omega) (by decide) ?_
        refine i_icmp_eq_f rfl (by first | omega | assumption) ?_
        refine i_iconst (n := 0) rfl (by unfold iR; omega) ?_
        -- at 31
        exact i_zreturn rfl rfl (by first | omega | assumption)
    · refine ⟨M1, ?_, Fr_t (Fr_r _ _) f1 (by simp), fun q => absurd q.2.1.1 c0⟩
      rw [bz_f (fun q => c0 q.2.1.1)]
      refine i_aload_n rfl rfl ?_
      refine i_iload_n rfl rfl ?_
      -- at 2
      refine i_call (T := (115, zp_115)) rfl rfl (h1) rfl rfl rfl rfl rfl rfl rfl ?_
      try dsimp only
      show irun none zp_139 5 _ (iI (rk (M 41) s) :: _) _ _ 0 0 _
      rw [hr]
      refine i_if_eq_f rfl (by first | omega | assumption) ?_
      refine i_aload_n rfl rfl ?_
      refine i_getr rfl rfl rfl rfl (by decide) rfl ?_
      refine i_iconst (n := 0) rfl (by unfold iR; omega) ?_
      refine i_iald rfl rfl (by first | omega | assumption) (by first | omega | assumption) (by decide) ?_
      -- at 14
      show irun none zp_139 14 _ (iI (M1 51 0) :: _) _ _ 0 0 _
      rw [g1 0 (by decide)]
      refine i_bipush (n := 83) rfl (by unfold iR; omega) (by decide) ?_
      refine i_icmp_ne_t rfl (by first | omega | assumption) ?_
      refine i_iconst (n := 0) rfl (by unfold iR; omega) ?_
      -- at 31
      exact i_zreturn rfl rfl (by first | omega | assumption)
