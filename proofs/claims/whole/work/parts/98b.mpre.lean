set_option maxRecDepth 100000 in
theorem d_count {b : Bool} {M : iM} {S : Nat → Int} {n : Nat} (hn : M 40 14 = (n : Int)) (h96 : n ≤ 96) (hS : ∀ j, j < n → M 48 j = S j ∧ 0 ≤ S j ∧ S j < 256) : ∃ M', irun none zp_124 0 (i_ent [iP 40] 4) [] (SH b) M 0 0 (none, SH b, M') ∧ Fr [40, 53, 54] M M' ∧ (∀ k, k ≠ 26 → M' 40 k = M 40 k) ∧ M' 40 26 = (sc S n : Int) ∧ ∀ k, k < sc S n → M' 53 k = sF S n k ∧ M' 54 k = wF S n k := by
  have hS2 : ∀ j, j < n → 0 ≤ S j ∧ S j < 256 := fun j hj => (hS j hj).2
  have inner : ∀ (M1 : iM) (v : Nat) (q : Option Int × List zS × iM), M1 40 14 = (n : Int) → (∀ j, j < n → M1 48 j = S j) → irun none zp_124 50 [some (iP 40), some (iI (v : Int)), some (iI (oc S (v : Int) n : Int)), some (iI (n : Int))] [] (SH b) M1 0 0 q → ∀ (d i : Nat), i + d = n → irun none zp_124 18 [some (iP 40), some (iI (v : Int)), some (iI (oc S (v : Int) i : Int)), some (iI (i : Int))] [] (SH b) M1 0 0 q := by
    intro M1 v q hn hs hq d
    induction d with
    | zero =>
      intro i hi
      obtain rfl : i = n := by omega
      refine i_iload_n rfl rfl ?_
      refine i_aload_n rfl rfl ?_
      refine i_getf rfl rfl rfl rfl (by decide) ?_
      refine i_icmp_ge_t rfl (by first | omega | assumption) ?_
      -- at 50
      exact hq
    | succ d ih =>
      intro i hi
      have hob := oc_b S (v : Int) i
      have g1 := ih (i + 1) (by omega)
      rw [show oc S (v : Int) (i + 1) = oc S (v : Int) i + (if S i = (v : Int) then 1 else 0) from rfl] at g1
      refine i_iload_n rfl rfl ?_
      refine i_aload_n rfl rfl ?_
      refine i_getf rfl rfl rfl rfl (by decide) ?_
      refine i_icmp_ge_f rfl (by first | omega | assumption) ?_
      refine i_aload_n rfl rfl ?_
      refine i_getr rfl rfl rfl rfl (by decide) rfl ?_
      refine i_iload_n rfl rfl ?_
      refine i_iald rfl rfl (by first | omega | assumption) (by first | omega | assumption) (by decide) ?_
      -- at 32
      rw [show (i : Int).toNat = i by omega, hs i (by omega)]
      by_cases e : S i = (v : Int)
      · rw [if_pos e, show ((oc S (v : Int) i + 1 : Nat) : Int) = (oc S (v : Int) i : Int) + 1 by omega] at g1
        refine i_iload_n rfl rfl ?_
        refine i_icmp_ne_f rfl (by first | omega | assumption) ?_
        refine i_iload_n rfl rfl ?_
        refine i_iconst (n := 1) rfl (by unfold iR; omega) ?_
        refine i_iadd rfl (by unfold iR; omega) ?_
        refine i_goto rfl ?_
        refine i_istore_n rfl (Nat.le_of_ble_eq_true rfl) rfl ?_
        refine i_iinc rfl rfl (by unfold iR; omega) (Nat.le_of_ble_eq_true rfl) rfl ?_
        refine i_goto rfl ?_
        -- at 18
        exact g1
      · rw [if_neg e, Nat.add_zero] at g1
        refine i_iload_n rfl rfl ?_
        refine i_icmp_ne_t rfl (by first | omega | assumption) ?_
        refine i_iload_n rfl rfl ?_
        refine i_istore_n rfl (Nat.le_of_ble_eq_true rfl) rfl ?_
        refine i_iinc rfl rfl (by unfold iR; omega) (Nat.le_of_ble_eq_true rfl) rfl ?_
        refine i_goto rfl ?_
        -- at 18
        exact g1
  have loop : ∀ (c v : Nat) (M1 : iM) (x y : Option iV), v + c = 256 → Fr [40, 53, 54] M M1 → (∀ k, k ≠ 26 → M1 40 k = M 40 k) → M1 40 26 = ((gs S n v).1 : Int) → (∀ k, k < (gs S n v).1 → M1 53 k = (gs S n v).2.1 k ∧ M1 54 k = (gs S n v).2.2 k) → ∃ M', irun none zp_124 7 [some (iP 40), some (iI (v : Int)), x, y] [] (SH b) M1 0 0 (none, SH b, M') ∧ Fr [40, 53, 54] M M' ∧ (∀ k, k ≠ 26 → M' 40 k = M 40 k) ∧ M' 40 26 = (sc S n : Int) ∧ ∀ k, k < sc S n → M' 53 k = sF S n k ∧ M' 54 k = wF S n k := by
    intro c
    induction c with
    | zero =>
      intro v M1 x y hv f1 g1 h1 h2
      obtain rfl : v = 256 := by omega
      refine ⟨M1, ?_, f1, g1, h1, h2⟩
      refine i_iload_n rfl rfl ?_
      refine i_sipush (n := 256) rfl (by unfold iR; omega) (by decide) ?_
      refine i_icmp_ge_t rfl (by first | omega | assumption) ?_
      -- at 90
      exact i_vreturn rfl rfl
    | succ c ih =>
      intro v M1 x y hv f1 g1 h1 h2
      have hc := gs_96 (v := v) hS2 (by omega)
      have hn1 : M1 40 14 = (n : Int) := by rw [g1 14 (by decide)]; exact hn
      have hs1 : ∀ j, j < n → M1 48 j = S j := fun j hj => by rw [f1 48 (by decide)]; exact (hS j hj).1
      have hob := oc_b S (v : Int) n
      by_cases c0 : 0 < oc S (v : Int) n
      · have eg : gs S n (v + 1) = ((gs S n v).1 + 1, va_up (gs S n v).2.1 (gs S n v).1 (v : Int), va_up (gs S n v).2.2 (gs S n v).1 (oc S (v : Int) n : Int)) := by
          show (if _ then _ else _) = _
          rw [if_pos c0]
        obtain ⟨M', k1, k2⟩ := ih (v + 1) (i_st (i_st (i_st M1 53 (gs S n v).1 (v : Int)) 54 (gs S n v).1 (oc S (v : Int) n : Int)) 40 26 (((gs S n v).1 : Int) + 1)) (some (iI (oc S (v : Int) n : Int))) (some (iI (n : Int))) (by omega) (Fr_st (Fr_st (Fr_st f1 (by decide)) (by decide)) (by decide)) (fun k hk => by
          show va_up (M1 40) 26 _ k = _
          rw [up_n hk]
          exact g1 k hk) (by rw [eg]; rfl) (fun k hk => by
          rw [eg] at hk ⊢
          show va_up (M1 53) (gs S n v).1 (v : Int) k = va_up (gs S n v).2.1 (gs S n v).1 (v : Int) k ∧ va_up (M1 54) (gs S n v).1 (oc S (v : Int) n : Int) k = va_up (gs S n v).2.2 (gs S n v).1 (oc S (v : Int) n : Int) k
          have hk : k < (gs S n v).1 + 1 := hk
          by_cases e : k = (gs S n v).1
          · rw [e, up_s, up_s, up_s, up_s]
            exact ⟨rfl, rfl⟩
          · rw [up_n e, up_n e, up_n e, up_n e]
            exact h2 k (by omega))
        refine ⟨M', ?_, k2⟩
        refine i_iload_n rfl rfl ?_
        refine i_sipush (n := 256) rfl (by unfold iR; omega) (by decide) ?_
        refine i_icmp_ge_f rfl (by first | omega | assumption) ?_
        refine i_iconst (n := 0) rfl (by unfold iR; omega) ?_
        refine i_istore_n rfl (Nat.le_of_ble_eq_true rfl) rfl ?_
        refine i_iconst (n := 0) rfl (by unfold iR; omega) ?_
        refine i_istore_n rfl (Nat.le_of_ble_eq_true rfl) rfl ?_
        -- at 18
        refine inner M1 v _ hn1 hs1 ?_ n 0 (by omega)
        refine i_iload_n rfl rfl ?_
        refine i_if_le_f rfl (by first | omega | assumption) ?_
        refine i_aload_n rfl rfl ?_
        refine i_getr rfl rfl rfl rfl (by decide) rfl ?_
        refine i_aload_n rfl rfl ?_
        refine i_getf rfl rfl rfl rfl (by decide) ?_
        -- at 62
        rw [h1]
        refine i_iload_n rfl rfl ?_
        refine i_iast rfl rfl (by first | omega | assumption) (by first | omega | assumption) ?_
        refine i_aload_n rfl rfl ?_
        refine i_getr rfl rfl rfl rfl (by decide) rfl ?_
        refine i_aload_n rfl rfl ?_
        refine i_getf rfl rfl rfl rfl (by decide) ?_
        -- at 72
        rw [show ((gs S n v).1 : Int).toNat = (gs S n v).1 by omega]
        show irun none zp_124 72 _ (iI (M1 40 26) :: _) _ _ 0 0 _
        rw [h1]
        refine i_iload_n rfl rfl ?_
        refine i_iast rfl rfl (by first | omega | assumption) (by first | omega | assumption) ?_
        refine i_aload_n rfl rfl ?_
        first | refine i_dup rfl ?_ | refine i_dupr rfl ?_
        refine i_getf rfl rfl rfl rfl (by decide) ?_
        -- at 79
        rw [show ((gs S n v).1 : Int).toNat = (gs S n v).1 by omega]
        show irun none zp_124 79 _ (iI (M1 40 26) :: _) _ _ 0 0 _
        rw [h1]
        refine i_iconst (n := 1) rfl (by unfold iR; omega) ?_
        refine i_iadd rfl (by unfold iR; omega) ?_
        refine i_puti rfl rfl rfl rfl ?_
        refine i_iinc rfl rfl (by unfold iR; omega) (Nat.le_of_ble_eq_true rfl) rfl ?_
        refine i_goto rfl ?_
        -- at 7
        exact k1
      · have eg : gs S n (v + 1) = gs S n v := by
          show (if _ then _ else _) = _
          rw [if_neg c0]
        obtain ⟨M', k1, k2⟩ := ih (v + 1) M1 (some (iI (oc S (v : Int) n : Int))) (some (iI (n : Int))) (by omega) f1 g1 (by rw [eg]; exact h1) (by rw [eg]; exact h2)
        refine ⟨M', ?_, k2⟩
        refine i_iload_n rfl rfl ?_
        refine i_sipush (n := 256) rfl (by unfold iR; omega) (by decide) ?_
        refine i_icmp_ge_f rfl (by first | omega | assumption) ?_
        refine i_iconst (n := 0) rfl (by unfold iR; omega) ?_
        refine i_istore_n rfl (Nat.le_of_ble_eq_true rfl) rfl ?_
        refine i_iconst (n := 0) rfl (by unfold iR; omega) ?_
        refine i_istore_n rfl (Nat.le_of_ble_eq_true rfl) rfl ?_
        -- at 18
        refine inner M1 v _ hn1 hs1 ?_ n 0 (by omega)
        refine i_iload_n rfl rfl ?_
        refine i_if_le_t rfl (by first | omega | assumption) ?_
        refine i_iinc rfl rfl (by unfold iR; omega) (Nat.le_of_ble_eq_true rfl) rfl ?_
        refine i_goto rfl ?_
        -- at 7
        exact k1
  obtain ⟨M', k1, k2⟩ := loop 256 0 (i_st M 40 26 0) none none (by omega) (Fr_st (Fr_r _ _) (by decide)) (fun k hk => by
    show va_up (M 40) 26 _ k = _
    rw [up_n hk]) rfl (fun k hk => by cases hk)
  refine ⟨M', ?_, k2⟩
  refine i_aload_n rfl rfl ?_
  refine i_iconst (n := 0) rfl (by unfold iR; omega) ?_
  refine i_puti rfl rfl rfl rfl ?_
  refine i_iconst (n := 0) rfl (by unfold iR; omega) ?_
  refine i_istore_n rfl (Nat.le_of_ble_eq_true rfl) rfl ?_
  -- at 7
  exact k1
set_option maxRecDepth 100000 in
theorem d_light {b : Bool} {M : iM} {c : Nat} {w q : Nat → Int} {e : Int} (hc : M 40 26 = (c : Int)) (h127 : c ≤ 127) (hT : ∀ k, k < c → M 58 k = w k ∧ M 59 k = q k) : irun none zp_125 0 (i_ent [iP 40, iI e] 5) [] (SH b) M 0 0 (some (lr w q e c), SH b, M) := by
  have tail : ∀ (k : Nat) (r : Option Int × List zS × iM) (L : Prop) [Decidable L], k < c → irun none zp_125 4 [some (iP 40), some (iI e), some (iI (if (k : Int) ≠ e ∧ 0 < w k ∧ L then (k : Int) else lr w q e k)), some (iI ((k : Int) + 1)), some (iI (if L then 1 else 0))] [] (SH b) M 0 0 r → irun none zp_125 66 [some (iP 40), some (iI e), some (iI (lr w q e k)), some (iI (k : Int)), none] [iI (if L then 1 else 0)] (SH b) M 0 0 r ∧ ∀ z : Int, irun none zp_125 66 [some (iP 40), some (iI e), some (iI (lr w q e k)), some (iI (k : Int)), some (iI z)] [iI (if L then 1 else 0)] (SH b) M 0 0 r := by
    intro k r L _ hk hr
    have gen : ∀ x : Option iV, irun none zp_125 66 [some (iP 40), some (iI e), some (iI (lr w q e k)), some (iI (k : Int)), x] [iI (if L then 1 else 0)] (SH b) M 0 0 r := by
      intro x
      refine i_istore rfl (Nat.le_of_ble_eq_true rfl) rfl ?_
      refine i_iload_n rfl rfl ?_
      refine i_iload_n rfl rfl ?_
      -- at 70
      by_cases c1 : (k : Int) = e
      · rw [if_neg (fun z => z.1 c1)] at hr
        refine i_icmp_eq_t rfl (by first | omega | assumption) ?_
        refine i_iinc rfl rfl (by unfold iR; omega) (Nat.le_of_ble_eq_true rfl) rfl ?_
        refine i_goto rfl ?_
        -- at 4
        exact hr
      · refine i_icmp_eq_f rfl (by first | omega | assumption) ?_
        refine i_aload_n rfl rfl ?_
        refine i_getr rfl rfl rfl rfl (by decide) rfl ?_
        refine i_iload_n rfl rfl ?_
        refine i_iald rfl rfl (by first | omega | assumption) (by first | omega | assumption) (by decide) ?_
        -- at 79
        rw [show (k : Int).toNat = k by omega, (hT k hk).1]
        by_cases c2 : 0 < w k
        · refine i_if_le_f rfl (by first | omega | assumption) ?_
          refine i_iload rfl rfl ?_
          -- at 84
          by_cases c3 : L
          · rw [if_pos c3, if_pos ⟨c1, c2, c3⟩] at hr
            rw [if_pos c3]
            refine i_if_eq_f rfl (by first | omega | assumption) ?_
            refine i_iload_n rfl rfl ?_
            refine i_istore_n rfl (Nat.le_of_ble_eq_true rfl) rfl ?_
            refine i_iinc rfl rfl (by unfold iR; omega) (Nat.le_of_ble_eq_true rfl) rfl ?_
            refine i_goto rfl ?_
            -- at 4
            exact hr
          · rw [if_neg c3, if_neg (fun z => c3 z.2.2)] at hr
            rw [if_neg c3]
            refine i_if_eq_t rfl (by first | omega | assumption) ?_
            refine i_iinc rfl rfl (by unfold iR; omega) (Nat.le_of_ble_eq_true rfl) rfl ?_
            refine i_goto rfl ?_
            -- at 4
            exact hr
        · rw [if_neg (fun z => c2 z.2.1)] at hr
          refine i_if_le_t rfl (by first | omega | assumption) ?_
          refine i_iinc rfl rfl (by unfold iR; omega) (Nat.le_of_ble_eq_true rfl) rfl ?_
          refine i_goto rfl ?_
          -- at 4
          exact hr
    exact ⟨gen _, fun z => gen _⟩
  have loop : ∀ (d k : Nat) (x : Option iV), (x = none ∨ ∃ z : Int, x = some (iI z)) → k + d = c → irun none zp_125 4 [some (iP 40), some (iI e), some (iI (lr w q e k)), some (iI (k : Int)), x] [] (SH b) M 0 0 (some (lr w q e c), SH b, M) := by
    intro d
    induction d with
    | zero =>
      intro k x hx hk
      obtain rfl : k = c := by omega
      refine i_iload_n rfl rfl ?_
      refine i_aload_n rfl rfl ?_
      refine i_getf rfl rfl rfl rfl (by decide) ?_
      refine i_icmp_ge_t rfl (by first | omega | assumption) ?_
      refine i_iload_n rfl rfl ?_
      -- at 96
      exact i_ireturn rfl rfl
    | succ d ih =>
      intro k x hx hk
      obtain ⟨t1, t2⟩ := hT k (by omega)
      have lb := lr_b (w := w) (q := q) (e := e) k
      have hnx := ih (k + 1) (some (iI (if (lr w q e k < 0 ∨ w k < w (lr w q e k).toNat ∨ (w k = w (lr w q e k).toNat ∧ q k < q (lr w q e k).toNat)) then 1 else 0))) (Or.inr ⟨_, rfl⟩) (by omega)
      obtain ⟨q1, q2⟩ := tail k (some (lr w q e c), SH b, M) (lr w q e k < 0 ∨ w k < w (lr w q e k).toNat ∨ (w k = w (lr w q e k).toNat ∧ q k < q (lr w q e k).toNat)) (by omega) hnx
      have q3 : irun none zp_125 66 [some (iP 40), some (iI e), some (iI (lr w q e k)), some (iI (k : Int)), x] [iI (if (lr w q e k < 0 ∨ w k < w (lr w q e k).toNat ∨ (w k = w (lr w q e k).toNat ∧ q k < q (lr w q e k).toNat)) then 1 else 0)] (SH b) M 0 0 (some (lr w q e c), SH b, M) := by
        rcases hx with rfl | ⟨z, rfl⟩
        · exact q1
        · exact q2 z
      by_cases c1 : lr w q e k < 0
      · rw [if_pos (Or.inl c1)] at q3
        refine i_iload_n rfl rfl ?_
        refine i_aload_n rfl rfl ?_
        refine i_getf rfl rfl rfl rfl (by decide) ?_
        refine i_icmp_ge_f rfl (by first | omega | assumption) ?_
        refine i_iload_n rfl rfl ?_
        refine i_if_lt_t rfl (by first | omega | assumption) ?_
        refine i_iconst (n := 1) rfl (by unfold iR; omega) ?_
        refine i_goto rfl ?_
        -- at 66
        exact q3
      · obtain ⟨s1, s2⟩ := hT (lr w q e k).toNat (by omega)
        refine i_iload_n rfl rfl ?_
        refine i_aload_n rfl rfl ?_
        refine i_getf rfl rfl rfl rfl (by decide) ?_
        refine i_icmp_ge_f rfl (by first | omega | assumption) ?_
        refine i_iload_n rfl rfl ?_
        refine i_if_lt_f rfl (by first | omega | assumption) ?_
        refine i_aload_n rfl rfl ?_
        refine i_getr rfl rfl rfl rfl (by decide) rfl ?_
        refine i_iload_n rfl rfl ?_
        refine i_iald rfl rfl (by first | omega | assumption) (by first | omega | assumption) (by decide) ?_
        -- at 22
        rw [show (k : Int).toNat = k by omega, t1]
        refine i_aload_n rfl rfl ?_
        refine i_getr rfl rfl rfl rfl (by decide) rfl ?_
        refine i_iload_n rfl rfl ?_
        refine i_iald rfl rfl (by first | omega | assumption) (by first | omega | assumption) (by decide) ?_
        -- at 28
        rw [s1]
        by_cases c2 : w k < w (lr w q e k).toNat
        · rw [if_pos (Or.inr (Or.inl c2))] at q3
          refine i_icmp_lt_t rfl (by first | omega | assumption) ?_
          refine i_iconst (n := 1) rfl (by unfold iR; omega) ?_
          refine i_goto rfl ?_
          -- at 66
          exact q3
        · refine i_icmp_lt_f rfl (by first | omega | assumption) ?_
          refine i_aload_n rfl rfl ?_
          refine i_getr rfl rfl rfl rfl (by decide) rfl ?_
          refine i_iload_n rfl rfl ?_
          refine i_iald rfl rfl (by first | omega | assumption) (by first | omega | assumption) (by decide) ?_
          -- at 37
          rw [show (k : Int).toNat = k by omega, t1]
          refine i_aload_n rfl rfl ?_
          refine i_getr rfl rfl rfl rfl (by decide) rfl ?_
          refine i_iload_n rfl rfl ?_
          refine i_iald rfl rfl (by first | omega | assumption) (by first | omega | assumption) (by decide) ?_
          -- at 43
          rw [s1]
          by_cases c3 : w k = w (lr w q e k).toNat
          · refine i_icmp_ne_f rfl (by first | omega | assumption) ?_
            refine i_aload_n rfl rfl ?_
            refine i_getr rfl rfl rfl rfl (by decide) rfl ?_
            refine i_iload_n rfl rfl ?_
            refine i_iald rfl rfl (by first | omega | assumption) (by first | omega | assumption) (by decide) ?_
            -- at 52
            rw [show (k : Int).toNat = k by omega, t2]
            refine i_aload_n rfl rfl ?_
            refine i_getr rfl rfl rfl rfl (by decide) rfl ?_
            refine i_iload_n rfl rfl ?_
            refine i_iald rfl rfl (by first | omega | assumption) (by first | omega | assumption) (by decide) ?_
            -- at 58
            rw [s2]
            by_cases c4 : q k < q (lr w q e k).toNat
            · rw [if_pos (Or.inr (Or.inr ⟨c3, c4⟩))] at q3
              refine i_icmp_ge_f rfl (by first | omega | assumption) ?_
              refine i_iconst (n := 1) rfl (by unfold iR; omega) ?_
              refine i_goto rfl ?_
              -- at 66
              exact q3
            · rw [if_neg (fun z => z.elim c1 (fun z => z.elim c2 (fun z => c4 z.2)))] at q3
              refine i_icmp_ge_t rfl (by first | omega | assumption) ?_
              refine i_iconst (n := 0) rfl (by unfold iR; omega) ?_
              -- at 66
              exact q3
          · rw [if_neg (fun z => z.elim c1 (fun z => z.elim c2 (fun z => c3 z.1)))] at q3
            refine i_icmp_ne_t rfl (by first | omega | assumption) ?_
            refine i_iconst (n := 0) rfl (by unfold iR; omega) ?_
            -- at 66
            exact q3
  refine i_iconst (n := -1) rfl (by unfold iR; omega) ?_
  refine i_istore_n rfl (Nat.le_of_ble_eq_true rfl) rfl ?_
  refine i_iconst (n := 0) rfl (by unfold iR; omega) ?_
  refine i_istore_n rfl (Nat.le_of_ble_eq_true rfl) rfl ?_
  -- at 4
  exact loop c 0 none (Or.inl rfl) (by omega)
