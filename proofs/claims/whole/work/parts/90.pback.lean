theorem pfx_t {B : Nat → Int} {m all : Nat} (h : tab B m) : pfx B m all = pdN B m all (lnB B) (tn B) (syB B) all 0 (7 + 12 * tn B) (fun _ => 0) := by unfold pfx; rw [if_pos h]
theorem pfx_f {B : Nat → Int} {m all : Nat} (h : ¬ tab B m) : pfx B m all = none := by unfold pfx; rw [if_neg h]
set_option maxRecDepth 100000 in
theorem d_pbE {b : Bool} {M : iM} {all : Int} {k n : Nat} (hn : M 40 26 = (n : Int)) (h : M 40 39 = 1) : irun none zp_135 35 [some (iP 40), some (iI all), some (iI (k : Int))] [] (SH b) M 0 0 (none, SH b, M) := by
  by_cases c : k < n
  · refine i_iload_n rfl rfl ?_
    refine i_aload_n rfl rfl ?_
    refine i_getf rfl rfl rfl rfl (by decide) ?_
    refine i_icmp_ge_f rfl (by first | omega | assumption) ?_
    refine i_aload_n rfl rfl ?_
    refine i_getf rfl rfl rfl rfl (by decide) ?_
    refine i_if_ne_t rfl (by first | omega | assumption) ?_
    refine i_aload_n rfl rfl ?_
    refine i_getf rfl rfl rfl rfl (by decide) ?_
    refine i_if_eq_f rfl (by first | omega | assumption) ?_
    -- at 132
    exact i_vreturn rfl rfl
  · refine i_iload_n rfl rfl ?_
    refine i_aload_n rfl rfl ?_
    refine i_getf rfl rfl rfl rfl (by decide) ?_
    refine i_icmp_ge_t rfl (by first | omega | assumption) ?_
    refine i_aload_n rfl rfl ?_
    refine i_getf rfl rfl rfl rfl (by decide) ?_
    refine i_if_eq_f rfl (by first | omega | assumption) ?_
    -- at 132
    exact i_vreturn rfl rfl
set_option maxRecDepth 100000 in
theorem d_pbT {b : Bool} {B : Nat → Int} {m : Nat} {all : Int} (hm : m ≤ 256) : ∀ (c k : Nat) (M : iM), k + c = tn B → 7 + 12 * k ≤ 8 * m → 1 ≤ tn B → RB M B m (7 + 12 * k) → M 40 26 = (tn B : Int) → M 40 39 = 0 → (∀ i, i < k → M 53 i = syB B i ∧ M 56 i = lnB B i) → (∀ i, i < k → te B m i) →
    ∃ M', Fr [40, 53, 56] M M' ∧ Gk M M' ∧ M' 40 38 = M 40 38 ∧ ((tab B m ∧ (∀ q, irun none zp_135 133 [some (iP 40), some (iI all), some (iI (tn B : Int))] [] (SH b) M' 0 0 q → irun none zp_135 35 [some (iP 40), some (iI all), some (iI (k : Int))] [] (SH b) M 0 0 q) ∧ M' 40 39 = 0 ∧ RB M' B m (7 + 12 * tn B) ∧ ∀ i, i < tn B → M' 53 i = syB B i ∧ M' 56 i = lnB B i) ∨
      (¬ tab B m ∧ irun none zp_135 35 [some (iP 40), some (iI all), some (iI (k : Int))] [] (SH b) M 0 0 (none, SH b, M') ∧ M' 40 39 = 1)) := by
  obtain ⟨t1, t2⟩ := tn_b B
  intro c
  induction c with
  | zero =>
    intro k M hk hkm h1 hB hn h39 h2 h3
    obtain rfl : k = tn B := by omega
    refine ⟨M, Fr_r _ _, Gk_r _, rfl, Or.inl ⟨⟨by omega, h1, h3⟩, fun q hq => ?_, h39, hB, h2⟩⟩
    refine i_iload_n rfl rfl ?_
    refine i_aload_n rfl rfl ?_
    refine i_getf rfl rfl rfl rfl (by decide) ?_
    refine i_icmp_ge_t rfl (by first | omega | assumption) ?_
    refine i_aload_n rfl rfl ?_
    refine i_getf rfl rfl rfl rfl (by decide) ?_
    refine i_if_eq_t rfl (by first | omega | assumption) ?_
    -- at 133
    exact hq
  | succ c ih =>
    intro k M hk hkm h1 hB hn h39 h2 h3
    -- the end of a failing entry
    have hend : ∀ (M3 : iM), Fr [40, 53, 56] M M3 → (∀ x, x ≠ 36 → x ≠ 39 → M3 40 x = M 40 x) → irun none zp_135 116 [some (iP 40), some (iI all), some (iI (k : Int))] [iI 1, iP 40] (SH b) M3 0 0 (none, SH b, i_st M3 40 39 1) := by
      intro M3 f3 q3
      have n3 : (i_st M3 40 39 1) 40 26 = (tn B : Int) := (q3 26 (by decide) (by decide)).trans hn
      have he := d_pbE (b := b) (M := i_st M3 40 39 1) (all := all) (k := k + 1) n3 rfl
      refine i_putz rfl rfl rfl rfl (by first | omega | assumption) ?_
      refine i_iinc rfl rfl (by unfold iR; omega) (Nat.le_of_ble_eq_true rfl) rfl ?_
      refine i_goto rfl ?_
      -- at 35
      exact he
    by_cases h12 : 7 + 12 * (k + 1) ≤ 8 * m
    · obtain ⟨M1, n8, f1, r1, q1⟩ := d_numG (b := b) (n := 8) hB hm (by decide) (by omega)
      have r1' : RB (i_st M1 53 k (syB B k)) B m (7 + 12 * k + 8) := r1
      obtain ⟨M2, n4, f2, r2, q2⟩ := d_numG (b := b) (n := 4) r1' hm (by decide) (by omega)
      obtain ⟨M3, hM3⟩ : ∃ M3, M3 = i_st M2 56 k (lnB B k) := ⟨_, rfl⟩
      have f3 : Fr [40, 53, 56] M M3 := by
        rw [hM3]
        exact Fr_st (Fr_t (Fr_st (Fr_t (Fr_r _ _) f1 (by decide)) (by decide)) f2 (by decide)) (by decide)
      have q3 : ∀ x, x ≠ 36 → M3 40 x = M 40 x := by
        intro x hx
        rw [hM3]
        exact (q2 x hx).trans (q1 x hx)
      have r3 : RB M3 B m (7 + 12 * (k + 1)) := by rw [hM3]; exact r2
      have h39' : M3 40 39 = 0 := (q3 39 (by decide)).trans h39
      have sb := sl_b B k
      have e3 : ∀ i, i < k + 1 → M3 53 i = syB B i ∧ M3 56 i = lnB B i := by
        intro i hi
        rw [hM3]
        show M2 53 i = _ ∧ va_up (M2 56) k _ i = _
        rw [f2 53 (by decide), f2 56 (by decide)]
        show va_up (M1 53) k (syB B k) i = _ ∧ va_up (M1 56) k _ i = _
        rw [f1 53 (by decide), f1 56 (by decide)]
        by_cases e : i = k
        · rw [e, up_s, up_s]; exact ⟨rfl, rfl⟩
        · rw [up_n e, up_n e]; exact h2 i (by omega)
      have hpre : ∀ q, irun none zp_135 75 [some (iP 40), some (iI all), some (iI (k : Int))] [iP 40, iP 40] (SH b) M3 0 0 q → irun none zp_135 35 [some (iP 40), some (iI all), some (iI (k : Int))] [] (SH b) M 0 0 q := by
        intro q hq
        refine i_iload_n rfl rfl ?_
        refine i_aload_n rfl rfl ?_
        refine i_getf rfl rfl rfl rfl (by decide) ?_
        refine i_icmp_ge_f rfl (by first | omega | assumption) ?_
        refine i_aload_n rfl rfl ?_
        refine i_getf rfl rfl rfl rfl (by decide) ?_
        refine i_if_ne_f rfl (by first | omega | assumption) ?_
        refine i_aload_n rfl rfl ?_
        refine i_getr rfl rfl rfl rfl (by decide) rfl ?_
        refine i_iload_n rfl rfl ?_
        refine i_aload_n rfl rfl ?_
        refine i_bipush (n := 8) rfl (by unfold iR; omega) (by decide) ?_
        -- at 58
        refine i_call (T := (132, zp_132)) rfl rfl (n8) rfl rfl rfl rfl rfl rfl rfl ?_
        try dsimp only
        show irun none zp_135 61 _ (iI (syB B k) :: _) _ _ 0 0 _
        refine i_iast rfl rfl (by first | omega | assumption) (by first | omega | assumption) ?_
        refine i_aload_n rfl rfl ?_
        refine i_getr rfl rfl rfl rfl (by decide) rfl ?_
        refine i_iload_n rfl rfl ?_
        refine i_aload_n rfl rfl ?_
        refine i_iconst (n := 4) rfl (by unfold iR; omega) ?_
        -- at 69
        rw [show (k : Int).toNat = k by omega]
        refine i_call (T := (132, zp_132)) rfl rfl (n4) rfl rfl rfl rfl rfl rfl rfl ?_
        try dsimp only
        show irun none zp_135 72 _ (iI (lnB B k) :: _) _ _ 0 0 _
        refine i_iast rfl rfl (by first | omega | assumption) (by first | omega | assumption) ?_
        refine i_aload_n rfl rfl ?_
        refine i_aload_n rfl rfl ?_
        -- at 75
        rw [show (k : Int).toNat = k by omega, ← hM3]
        exact hq
      by_cases hte : te B m k
      · obtain ⟨M', g1, g2, g3, g4⟩ := ih (k + 1) (i_st M3 40 39 0) (by omega) h12 h1 r3 ((q3 26 (by decide)).trans hn) rfl e3 (fun i hi => by
          by_cases e : i = k
          · rw [e]; exact hte
          · exact h3 i (by omega))
        have hstep : ∀ q, irun none zp_135 35 [some (iP 40), some (iI all), some (iI ((k + 1 : Nat) : Int))] [] (SH b) (i_st M3 40 39 0) 0 0 q → irun none zp_135 35 [some (iP 40), some (iI all), some (iI (k : Int))] [] (SH b) M 0 0 q := by
          intro q hq
          refine hpre q ?_
          obtain ⟨-, hl0, hs⟩ := hte
          refine i_getf rfl rfl rfl rfl (by decide) ?_
          refine i_if_ne_f rfl (by first | omega | assumption) ?_
          refine i_aload_n rfl rfl ?_
          refine i_getr rfl rfl rfl rfl (by decide) rfl ?_
          refine i_iload_n rfl rfl ?_
          refine i_iald rfl rfl (by first | omega | assumption) (by first | omega | assumption) (by decide) ?_
          -- at 87
          rw [show (k : Int).toNat = k by omega, (e3 k (by omega)).2]
          by_cases k0 : k = 0
          · refine i_if_eq_f rfl (by first | omega | assumption) ?_
            refine i_iload_n rfl rfl ?_
            refine i_if_le_t rfl (by first | omega | assumption) ?_
            refine i_iconst (n := 0) rfl (by unfold iR; omega) ?_
            refine i_putz rfl rfl rfl rfl (by first | omega | assumption) ?_
            refine i_iinc rfl rfl (by unfold iR; omega) (Nat.le_of_ble_eq_true rfl) rfl ?_
            refine i_goto rfl ?_
            -- at 35
            exact hq
          · have hs := hs.resolve_left k0
            refine i_if_eq_f rfl (by first | omega | assumption) ?_
            refine i_iload_n rfl rfl ?_
            refine i_if_le_f rfl (by first | omega | assumption) ?_
            refine i_aload_n rfl rfl ?_
            refine i_getr rfl rfl rfl rfl (by decide) rfl ?_
            refine i_iload_n rfl rfl ?_
            refine i_iald rfl rfl (by first | omega | assumption) (by first | omega | assumption) (by decide) ?_
            -- at 100
            rw [show (k : Int).toNat = k by omega, (e3 k (by omega)).1]
            refine i_aload_n rfl rfl ?_
            refine i_getr rfl rfl rfl rfl (by decide) rfl ?_
            refine i_iload_n rfl rfl ?_
            refine i_iconst (n := 1) rfl (by unfold iR; omega) ?_
            refine i_isub rfl (by unfold iR; omega) ?_
            refine i_iald rfl rfl (by first | omega | assumption) (by first | omega | assumption) (by decide) ?_
            -- at 108
            rw [show ((k : Int) - 1).toNat = k - 1 by omega, (e3 (k - 1) (by omega)).1]
            refine i_icmp_gt_t rfl (by first | omega | assumption) ?_
            refine i_iconst (n := 0) rfl (by unfold iR; omega) ?_
            refine i_putz rfl rfl rfl rfl (by first | omega | assumption) ?_
            refine i_iinc rfl rfl (by unfold iR; omega) (Nat.le_of_ble_eq_true rfl) rfl ?_
            refine i_goto rfl ?_
            -- at 35
            exact hq
        refine ⟨M', Fr_t (Fr_st f3 (by decide)) g1 (by decide), fun x x1 x2 x3 => ?_, ?_, ?_⟩
        · rw [g2 x x1 x2 x3]
          show va_up (M3 40) 39 0 x = _
          rw [up_n x3]
          exact q3 x x1
        · rw [g3]
          exact q3 38 (by decide)
        · rcases g4 with ⟨g4, g5, g6⟩ | ⟨g4, g5, g6⟩
          · exact Or.inl ⟨g4, fun q hq => hstep q (g5 q hq), g6⟩
          · exact Or.inr ⟨g4, hstep _ g5, g6⟩
      · have nt : ¬ tab B m := fun q => hte (q.2.2 k (by omega))
        refine ⟨i_st M3 40 39 1, Fr_st f3 (by decide), fun x x1 x2 x3 => ?_, q3 38 (by decide), Or.inr ⟨nt, hpre _ ?_, rfl⟩⟩
        · show va_up (M3 40) 39 1 x = _
          rw [up_n x3]
          exact q3 x x1
        · refine i_getf rfl rfl rfl rfl (by decide) ?_
          refine i_if_ne_f rfl (by first | omega | assumption) ?_
          refine i_aload_n rfl rfl ?_
          refine i_getr rfl rfl rfl rfl (by decide) rfl ?_
          refine i_iload_n rfl rfl ?_
          refine i_iald rfl rfl (by first | omega | assumption) (by first | omega | assumption) (by decide) ?_
          -- at 87
          rw [show (k : Int).toNat = k by omega, (e3 k (by omega)).2]
          by_cases hl0 : lnB B k = 0
          · refine i_if_eq_t rfl (by first | omega | assumption) ?_
            refine i_iconst (n := 1) rfl (by unfold iR; omega) ?_
            refine i_goto rfl ?_
            -- at 116
            exact hend M3 f3 (fun x x1 x2 => q3 x x1)
          · have k0 : ¬ k = 0 := fun q => hte ⟨h12, hl0, Or.inl q⟩
            have hs : ¬ syB B (k - 1) < syB B k := fun q => hte ⟨h12, hl0, Or.inr q⟩
            refine i_if_eq_f rfl (by first | omega | assumption) ?_
            refine i_iload_n rfl rfl ?_
            refine i_if_le_f rfl (by first | omega | assumption) ?_
            refine i_aload_n rfl rfl ?_
            refine i_getr rfl rfl rfl rfl (by decide) rfl ?_
            refine i_iload_n rfl rfl ?_
            refine i_iald rfl rfl (by first | omega | assumption) (by first | omega | assumption) (by decide) ?_
            -- at 100
            rw [show (k : Int).toNat = k by omega, (e3 k (by omega)).1]
            refine i_aload_n rfl rfl ?_
            refine i_getr rfl rfl rfl rfl (by decide) rfl ?_
            refine i_iload_n rfl rfl ?_
            refine i_iconst (n := 1) rfl (by unfold iR; omega) ?_
            refine i_isub rfl (by unfold iR; omega) ?_
            refine i_iald rfl rfl (by first | omega | assumption) (by first | omega | assumption) (by decide) ?_
            -- at 108
            rw [show ((k : Int) - 1).toNat = k - 1 by omega, (e3 (k - 1) (by omega)).1]
            refine i_icmp_gt_f rfl (by first | omega | assumption) ?_
            refine i_iconst (n := 1) rfl (by unfold iR; omega) ?_
            refine i_goto rfl ?_
            -- at 116
            exact hend M3 f3 (fun x x1 x2 => q3 x x1)
    · have nt : ¬ tab B m := fun q => h12 (q.2.2 k (by omega)).1
      have hfin : ∀ (r8 r4 : Int) (M1 M2 : iM), irun none zp_132 0 (i_ent [iP 40, iI ((8 : Nat) : Int)] 4) [] (SH b) M 0 0 (some r8, SH b, M1) → irun none zp_132 0 (i_ent [iP 40, iI ((4 : Nat) : Int)] 4) [] (SH b) (i_st M1 53 k r8) 0 0 (some r4, SH b, M2) → Fr [40] M M1 → Fr [40] (i_st M1 53 k r8) M2 → (∀ x, x ≠ 36 → x ≠ 39 → M2 40 x = M 40 x) → M2 40 39 = 1 → ∃ M', Fr [40, 53, 56] M M' ∧ Gk M M' ∧ M' 40 38 = M 40 38 ∧ ((tab B m ∧ (∀ q, irun none zp_135 133 [some (iP 40), some (iI all), some (iI (tn B : Int))] [] (SH b) M' 0 0 q → irun none zp_135 35 [some (iP 40), some (iI all), some (iI (k : Int))] [] (SH b) M 0 0 q) ∧ M' 40 39 = 0 ∧ RB M' B m (7 + 12 * tn B) ∧ ∀ i, i < tn B → M' 53 i = syB B i ∧ M' 56 i = lnB B i) ∨
          (¬ tab B m ∧ irun none zp_135 35 [some (iP 40), some (iI all), some (iI (k : Int))] [] (SH b) M 0 0 (none, SH b, M') ∧ M' 40 39 = 1)) := by
        intro r8 r4 M1 M2 n8 n4 f1 f2 q2 e39
        have f3 : Fr [40, 53, 56] M (i_st M2 56 k r4) := Fr_st (Fr_t (Fr_st (Fr_t (Fr_r _ _) f1 (by decide)) (by decide)) f2 (by decide)) (by decide)
        refine ⟨i_st (i_st M2 56 k r4) 40 39 1, Fr_st f3 (by decide), fun x x1 x2 x3 => ?_, ?_, Or.inr ⟨nt, ?_, rfl⟩⟩
        · show va_up (M2 40) 39 1 x = _
          rw [up_n x3]
          exact q2 x x1 x3
        · exact q2 38 (by decide) (by decide)
        · have e39 : (i_st M2 56 k r4) 40 39 = 1 := e39
          have he := hend (i_st M2 56 k r4) f3 q2
          refine i_iload_n rfl rfl ?_
          refine i_aload_n rfl rfl ?_
          refine i_getf rfl rfl rfl rfl (by decide) ?_
          refine i_icmp_ge_f rfl (by first | omega | assumption) ?_
          refine i_aload_n rfl rfl ?_
          refine i_getf rfl rfl rfl rfl (by decide) ?_
          refine i_if_ne_f rfl (by first | omega | assumption) ?_
          refine i_aload_n rfl rfl ?_
          refine i_getr rfl rfl rfl rfl (by decide) rfl ?_
          refine i_iload_n rfl rfl ?_
          refine i_aload_n rfl rfl ?_
          refine i_bipush (n := 8) rfl (by unfold iR; omega) (by decide) ?_
          -- at 58
          refine i_call (T := (132, zp_132)) rfl rfl (n8) rfl rfl rfl rfl rfl rfl rfl ?_
          try dsimp only
          show irun none zp_135 61 _ (iI (r8) :: _) _ _ 0 0 _
          refine i_iast rfl rfl (by first | omega | assumption) (by first | omega | assumption) ?_
          refine i_aload_n rfl rfl ?_
          refine i_getr rfl rfl rfl rfl (by decide) rfl ?_
          refine i_iload_n rfl rfl ?_
          refine i_aload_n rfl rfl ?_
          refine i_iconst (n := 4) rfl (by unfold iR; omega) ?_
          -- at 69
          rw [show (k : Int).toNat = k by omega]
          refine i_call (T := (132, zp_132)) rfl rfl (n4) rfl rfl rfl rfl rfl rfl rfl ?_
          try dsimp only
          show irun none zp_135 72 _ (iI (r4) :: _) _ _ 0 0 _
          refine i_iast rfl rfl (by first | omega | assumption) (by first | omega | assumption) ?_
          refine i_aload_n rfl rfl ?_
          refine i_aload_n rfl rfl ?_
          -- at 75
          rw [show (k : Int).toNat = k by omega]
          refine i_getf rfl rfl rfl rfl (by decide) ?_
          refine i_if_ne_t rfl (by first | omega | assumption) ?_
          refine i_iconst (n := 1) rfl (by unfold iR; omega) ?_
          refine i_goto rfl ?_
          -- at 116
          exact he
      by_cases h8 : 7 + 12 * k + 8 ≤ 8 * m
      · obtain ⟨M1, n8, f1, r1, q1⟩ := d_numG (b := b) (n := 8) hB hm (by decide) (by omega)
        have r1' : RB (i_st M1 53 k (nv B (7 + 12 * k) 8)) B m (7 + 12 * k + 8) := r1
        obtain ⟨r4, M2, a2, n4, f2, -, r2, a2b, e39, q2⟩ := d_numB (b := b) (n := 4) r1' hm (by omega) (by decide) (by omega)
        exact hfin _ r4 M1 M2 n8 n4 f1 f2 (fun x x1 x2 => (q2 x x1 x2).trans (q1 x x1)) e39
      · obtain ⟨r8, M1, a1, n8, f1, -, r1, a1b, e39, q1⟩ := d_numB (b := b) (n := 8) hB hm (by omega) (by decide) (by omega)
        have r1' : RB (i_st M1 53 k r8) B m a1 := r1
        obtain ⟨r4, M2, a2, n4, f2, -, r2, a2b, e39, q2⟩ := d_numB (b := b) (n := 4) r1' hm a1b (by decide) (Or.inr e39)
        exact hfin r8 r4 M1 M2 n8 n4 f1 f2 (fun x x1 x2 => (q2 x x1 x2).trans (q1 x x1 x2)) e39
set_option maxRecDepth 100000 in
theorem d_pback {b : Bool} {M : iM} {B : Nat → Int} {m all : Nat} (hB : RB M B m 0) (hm : m ≤ 256) (hall : all ≤ 255) (h38 : M 40 38 = 0) (h39 : M 40 39 = 0) :
    ∃ M', irun none zp_135 0 (i_ent [iP 40, iI (all : Int)] 3) [] (SH b) M 0 0 (none, SH b, M') ∧ Fr [40, 53, 56, 57, 61] M M' ∧ G40 M M' ∧ (match pfx B m all with
      | some R' => M' 40 39 = 0 ∧ M' 40 38 = (all : Int) ∧ ∀ j, j < all → M' 61 j = R' j
      | none => M' 40 39 = 1 ∧ ∃ g : Nat, M' 40 38 = (g : Int) ∧ g ≤ all) := by
  obtain ⟨t1, t2⟩ := tn_b B
  by_cases h7 : 7 ≤ 8 * m
  · obtain ⟨M1, n7, f1, r1, q1⟩ := d_numG (b := b) (n := 7) hB hm (by decide) (by omega)
    rw [t1] at n7
    have b1 : (i_st M1 40 26 (tn B : Int)) 40 39 = 0 := (q1 39 (by decide)).trans h39
    by_cases h1 : 1 ≤ tn B
    · obtain ⟨M2, hM2⟩ : ∃ M2, M2 = i_st (i_st M1 40 26 (tn B : Int)) 40 39 0 := ⟨_, rfl⟩
      have f2 : Fr [40] M M2 := by rw [hM2]; exact Fr_st (Fr_st f1 (by decide)) (by decide)
      have q2 : ∀ x, x ≠ 36 → x ≠ 26 → x ≠ 39 → M2 40 x = M 40 x := by
        intro x x1 x2 x3
        rw [hM2]
        show va_up (va_up (M1 40) 26 _) 39 0 x = _
        rw [up_n x3, up_n x2]
        exact q1 x x1
      have r2 : RB M2 B m 7 := by rw [hM2]; exact r1
      have hpre : ∀ q, irun none zp_135 35 [some (iP 40), some (iI (all : Int)), some (iI ((0 : Nat) : Int))] [] (SH b) M2 0 0 q → irun none zp_135 0 (i_ent [iP 40, iI (all : Int)] 3) [] (SH b) M 0 0 q := by
        intro q hq
        rw [hM2] at hq
        refine i_aload_n rfl rfl ?_
        refine i_aload_n rfl rfl ?_
        refine i_bipush (n := 7) rfl (by unfold iR; omega) (by decide) ?_
        -- at 4
        refine i_call (T := (132, zp_132)) rfl rfl (n7) rfl rfl rfl rfl rfl rfl rfl ?_
        try dsimp only
        show irun none zp_135 7 _ (iI ((tn B : Int)) :: _) _ _ 0 0 _
        refine i_puti rfl rfl rfl rfl ?_
        refine i_aload_n rfl rfl ?_
        refine i_aload_n rfl rfl ?_
        refine i_getf rfl rfl rfl rfl (by decide) ?_
        refine i_if_ne_f rfl (by first | omega | assumption) ?_
        refine i_aload_n rfl rfl ?_
        refine i_getf rfl rfl rfl rfl (by decide) ?_
        -- at 22
        show irun none zp_135 22 _ (iI (tn B : Int) :: _) _ _ 0 0 _
        refine i_if_ne_t rfl (by first | omega | assumption) ?_
        refine i_iconst (n := 0) rfl (by unfold iR; omega) ?_
        refine i_putz rfl rfl rfl rfl (by first | omega | assumption) ?_
        refine i_iconst (n := 0) rfl (by unfold iR; omega) ?_
        refine i_istore_n rfl (Nat.le_of_ble_eq_true rfl) rfl ?_
        -- at 35
        exact hq
      obtain ⟨M3, f3, g3, e38, g4⟩ := d_pbT (b := b) (B := B) (all := (all : Int)) hm (tn B) 0 M2 (by omega) (by omega) h1 r2 (by rw [hM2]; rfl) (by rw [hM2]; rfl) (fun i hi => by omega) (fun i hi => by omega)
      have g40 : G40 M M3 := fun x hx => (g3 x (by omega) (by omega) (by omega)).trans (q2 x (by omega) (by omega) (by omega))
      have z38 : M3 40 38 = 0 := e38.trans ((q2 38 (by decide) (by decide) (by decide)).trans h38)
      have z26 : M3 40 26 = (tn B : Int) := by
        rw [g3 26 (by decide) (by decide) (by decide), hM2]
        rfl
      rcases g4 with ⟨ht, g5, g6, g7, g8⟩ | ⟨ht, g5, g6⟩
      · rw [pfx_t ht]
        obtain ⟨M4, h4, f4, g9⟩ := d_codes (b := b) (M := M3) z26 t2
        have rkc : ∀ (l : Int) (k : Nat), k ≤ tn B → rkN (M3 56) l k = rkN (lnB B) l k := by
          intro l k
          induction k with
          | zero => intro _; rfl
          | succ k ih =>
            intro hk
            unfold rkN
            rw [ih (by omega), (g8 k (by omega)).2]
        have fcc : ∀ l, fcN (M3 56) (tn B) l = fcN (lnB B) (tn B) l := by
          intro l
          induction l with
          | zero => rfl
          | succ l ih =>
            unfold fcN
            rw [ih, rkc _ _ (Nat.le_refl _)]
        have hcd : ∀ i, i < tn B → M4 56 i = lnB B i ∧ M4 57 i = cd (lnB B) (tn B) i := by
          intro i hi
          have sb := sl_b B i
          have hne := (ht.2.2 i hi).2.1
          have e := (g8 i hi).2
          rw [f4 56 (by decide)]
          refine ⟨e, ?_⟩
          rw [g9 i hi (by rw [e]; omega) (by rw [e]; omega)]
          unfold cd
          rw [e, fcc, rkc _ _ (by omega)]
        have hm7 : 7 + 12 * tn B ≤ 8 * m := by
          have := (ht.2.2 (tn B - 1) (by omega)).1
          omega
        obtain ⟨M5, h5, f5, k5, r5⟩ := d_pbL (b := b) (B := B) (L := lnB B) (S := syB B) (n := tn B) hm t2 hall all 0 (7 + 12 * tn B) (fun _ => 0) (some (iI (tn B : Int))) M4 (by omega) (by omega) hm7 (RB_c g7 (by rw [f4 40 (by decide)]) (by rw [f4 40 (by decide)]) (f4 60 (by decide))) (by rw [f4 40 (by decide)]; exact z38) (by rw [f4 40 (by decide)]; exact g6) (by rw [f4 40 (by decide)]; exact z26) hcd (fun i hi => by rw [f4 53 (by decide)]; exact (g8 i hi).1) (fun j hj => by omega)
        refine ⟨M5, hpre _ (g5 _ ?_), Fr_t (Fr_t (Fr_t (Fr_t (Fr_r _ _) f2 (by decide)) f3 (by decide)) f4 (by decide)) f5 (by decide), G40_t (G40_t g40 (fun x _ => by rw [f4 40 (by decide)])) (Gk_40 k5), r5⟩
        refine i_aload_n rfl rfl ?_
        -- at 134
        refine i_call (T := (127, zp_127)) rfl rfl (h4) rfl rfl rfl rfl rfl rfl rfl ?_
        try dsimp only
        exact h5
      · rw [pfx_f ht]
        exact ⟨M3, hpre _ g5, Fr_t (Fr_t (Fr_r _ _) f2 (by decide)) f3 (by decide), g40, g6, 0, z38, by omega⟩
    · have nt : ¬ tab B m := fun q => h1 q.2.1
      have e0 : tn B = 0 := by omega
      rw [pfx_f nt]
      rw [e0] at n7 b1
      have he := d_pbE (b := b) (M := i_st (i_st M1 40 26 ((0 : Nat) : Int)) 40 39 1) (all := (all : Int)) (k := 0) (n := 0) rfl rfl
      refine ⟨i_st (i_st M1 40 26 ((0 : Nat) : Int)) 40 39 1, ?_, Fr_st (Fr_st (Fr_t (Fr_r _ _) f1 (by decide)) (by decide)) (by decide), fun x hx => ?_, rfl, 0, ?_, by omega⟩
      · refine i_aload_n rfl rfl ?_
        refine i_aload_n rfl rfl ?_
        refine i_bipush (n := 7) rfl (by unfold iR; omega) (by decide) ?_
        -- at 4
        refine i_call (T := (132, zp_132)) rfl rfl (n7) rfl rfl rfl rfl rfl rfl rfl ?_
        try dsimp only
        show irun none zp_135 7 _ (iI (((0 : Nat) : Int)) :: _) _ _ 0 0 _
        refine i_puti rfl rfl rfl rfl ?_
        refine i_aload_n rfl rfl ?_
        refine i_aload_n rfl rfl ?_
        refine i_getf rfl rfl rfl rfl (by decide) ?_
        refine i_if_ne_f rfl (by first | omega | assumption) ?_
        refine i_aload_n rfl rfl ?_
        refine i_getf rfl rfl rfl rfl (by decide) ?_
        -- at 22
        show irun none zp_135 22 _ (iI ((0 : Nat) : Int) :: _) _ _ 0 0 _
        refine i_if_ne_f rfl (by first | omega | assumption) ?_
        refine i_iconst (n := 1) rfl (by unfold iR; omega) ?_
        refine i_goto rfl ?_
        refine i_putz rfl rfl rfl rfl (by first | omega | assumption) ?_
        refine i_iconst (n := 0) rfl (by unfold iR; omega) ?_
        refine i_istore_n rfl (Nat.le_of_ble_eq_true rfl) rfl ?_
        -- at 35
        exact he
      · show va_up (va_up (M1 40) 26 _) 39 1 x = _
        rw [up_n (by omega), up_n (by omega)]
        exact q1 x (by omega)
      · exact (q1 38 (by decide)).trans h38
  · have nt : ¬ tab B m := fun q => h7 q.1
    rw [pfx_f nt]
    obtain ⟨r, M1, a1, n7, f1, hr, r1, a1b, e39, q1⟩ := d_numB (b := b) (n := 7) hB hm (by omega) (by decide) (by omega)
    obtain ⟨k, rfl⟩ := Int.eq_ofNat_of_zero_le hr.1
    have e39 : (i_st M1 40 26 (k : Int)) 40 39 = 1 := e39
    have he := d_pbE (b := b) (M := i_st (i_st M1 40 26 (k : Int)) 40 39 1) (all := (all : Int)) (k := 0) (n := k) rfl rfl
    refine ⟨i_st (i_st M1 40 26 (k : Int)) 40 39 1, ?_, Fr_st (Fr_st (Fr_t (Fr_r _ _) f1 (by decide)) (by decide)) (by decide), fun x hx => ?_, rfl, 0, ?_, by omega⟩
    · refine i_aload_n rfl rfl ?_
      refine i_aload_n rfl rfl ?_
      refine i_bipush (n := 7) rfl (by unfold iR; omega) (by decide) ?_
      -- at 4
      refine i_call (T := (132, zp_132)) rfl rfl (n7) rfl rfl rfl rfl rfl rfl rfl ?_
      try dsimp only
      show irun none zp_135 7 _ (iI ((k : Int)) :: _) _ _ 0 0 _
      refine i_puti rfl rfl rfl rfl ?_
      refine i_aload_n rfl rfl ?_
      refine i_aload_n rfl rfl ?_
      refine i_getf rfl rfl rfl rfl (by decide) ?_
      refine i_if_ne_t rfl (by first | omega | assumption) ?_
      refine i_iconst (n := 1) rfl (by unfold iR; omega) ?_
      refine i_goto rfl ?_
      refine i_putz rfl rfl rfl rfl (by first | omega | assumption) ?_
      refine i_iconst (n := 0) rfl (by unfold iR; omega) ?_
      refine i_istore_n rfl (Nat.le_of_ble_eq_true rfl) rfl ?_
      -- at 35
      exact he
    · show va_up (va_up (M1 40) 26 _) 39 1 x = _
      rw [up_n (by omega), up_n (by omega)]
      exact q1 x (by omega) (by omega)
    · exact (q1 38 (by decide) (by decide)).trans h38
