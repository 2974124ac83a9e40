abbrev sc (S : Nat → Int) (n : Nat) : Nat := (gs S n 256).1
abbrev sF (S : Nat → Int) (n : Nat) : Nat → Int := (gs S n 256).2.1
abbrev wF (S : Nat → Int) (n : Nat) : Nat → Int := (gs S n 256).2.2
theorem oc_b (S : Nat → Int) (v : Int) : ∀ i, oc S v i ≤ i := by
  intro i
  induction i with
  | zero => exact Nat.le_refl _
  | succ i ih =>
    unfold oc
    split <;> omega
theorem soN_m {S : Nat → Int} {n u v : Nat} (h : u ≤ v) : soN S n u ≤ soN S n v := by
  induction h with
  | refl => exact Nat.le_refl _
  | step h ih => exact Nat.le_trans ih (Nat.le_add_right _ _)
theorem gs_96 {S : Nat → Int} {n v : Nat} (hS : ∀ j, j < n → 0 ≤ S j ∧ S j < 256) (hv : v ≤ 256) : (gs S n v).1 ≤ n := by
  have h1 := (gs_ok (S := S) (n := n) v).2.2.2.2.1
  have h2 := soN_m (S := S) (n := n) hv
  have h3 := soN_all n hS
  omega
set_option maxRecDepth 100000 in
theorem c_gather {b : Bool} {M : iM} {S : Nat → Int} {n : Nat} (hS : ∀ j, j < n → M 7 j = S j ∧ 0 ≤ S j ∧ S j < 256) (hn : n ≤ 96) : ∃ M', irun none zp_97 0 (i_ent [iP 18, iP 7, iI (n : Int)] 4) [] (SH b) M 0 0 (some 1, SH b, M') ∧ Fr [18, 19, 22, 27] M M' ∧ M' 18 9 = (sc S n : Int) ∧ ∀ k, k < sc S n → M' 19 k = sF S n k ∧ M' 22 k = wF S n k := by
  have hS2 : ∀ j, j < n → 0 ≤ S j ∧ S j < 256 := fun j hj => (hS j hj).2
  -- the second loop
  have loop2 : ∀ (c v : Nat) (M1 : iM), v + c = 256 → Fr [18, 19, 22, 27] M M1 → M1 18 9 = ((gs S n v).1 : Int) → (∀ k, k < (gs S n v).1 → M1 19 k = (gs S n v).2.1 k ∧ M1 22 k = (gs S n v).2.2 k) → (∀ u : Nat, u < 256 → M1 27 u = (oc S (u : Int) n : Int)) → ∃ M', irun none zp_97 40 [some (iP 18), some (iP 7), some (iI (n : Int)), some (iI (v : Int))] [] (SH b) M1 0 0 (some 1, SH b, M') ∧ Fr [18, 19, 22, 27] M M' ∧ M' 18 9 = (sc S n : Int) ∧ ∀ k, k < sc S n → M' 19 k = sF S n k ∧ M' 22 k = wF S n k := by
    intro c
    induction c with
    | zero =>
      intro v M1 hv f1 h1 h2 h3
      obtain rfl : v = 256 := by omega
      refine ⟨M1, ?_, f1, h1, h2⟩
      refine i_iload_n rfl rfl ?_
      refine i_sipush (n := 256) rfl (by unfold iR; omega) (by decide) ?_
      refine i_icmp_ge_t rfl (by first | omega | assumption) ?_
      refine i_iconst (n := 1) rfl (by unfold iR; omega) ?_
      -- at 109
      exact i_zreturn rfl rfl (by first | omega | assumption)
    | succ c ih =>
      intro v M1 hv f1 h1 h2 h3
      have ho := h3 v (by omega)
      have hc := gs_96 (v := v) hS2 (by omega)
      by_cases c0 : 0 < oc S (v : Int) n
      · have eg : gs S n (v + 1) = ((gs S n v).1 + 1, va_up (gs S n v).2.1 (gs S n v).1 (v : Int), va_up (gs S n v).2.2 (gs S n v).1 (oc S (v : Int) n : Int)) := by
          show (if _ then _ else _) = _
          rw [if_pos c0]
        obtain ⟨M', g1, g2⟩ := ih (v + 1) (i_st (i_st (i_st M1 19 (gs S n v).1 (v : Int)) 22 (gs S n v).1 (oc S (v : Int) n : Int)) 18 9 (((gs S n v).1 : Int) + 1)) (by omega) (Fr_st (Fr_st (Fr_st f1 (by decide)) (by decide)) (by decide)) (by rw [eg]; rfl) (fun k hk => by
          rw [eg] at hk ⊢
          show va_up (M1 19) (gs S n v).1 (v : Int) k = va_up (gs S n v).2.1 (gs S n v).1 (v : Int) k ∧ va_up (M1 22) (gs S n v).1 (oc S (v : Int) n : Int) k = va_up (gs S n v).2.2 (gs S n v).1 (oc S (v : Int) n : Int) k
          have hk : k < (gs S n v).1 + 1 := hk
          by_cases e : k = (gs S n v).1
          · rw [e, up_s, up_s, up_s, up_s]
            exact ⟨rfl, rfl⟩
          · rw [up_n e, up_n e, up_n e, up_n e]
            exact h2 k (by omega)) h3
        refine ⟨M', ?_, g2⟩
        refine i_iload_n rfl rfl ?_
        refine i_sipush (n := 256) rfl (by unfold iR; omega) (by decide) ?_
        refine i_icmp_ge_f rfl (by first | omega | assumption) ?_
        refine i_aload_n rfl rfl ?_
        refine i_getr rfl rfl rfl rfl (by decide) rfl ?_
        refine i_iload_n rfl rfl ?_
        refine i_iald rfl rfl (by first | omega | assumption) (by first | omega | assumption) (by decide) ?_
        -- at 53
        rw [show (v : Int).toNat = v by omega, ho]
        refine i_if_le_f rfl (by first | omega | assumption) ?_
        refine i_aload_n rfl rfl ?_
        refine i_getf rfl rfl rfl rfl (by decide) ?_
        refine i_bipush (n := 127) rfl (by unfold iR; omega) (by decide) ?_
        refine i_icmp_ne_t rfl (by first | omega | assumption) ?_
        refine i_aload_n rfl rfl ?_
        refine i_getr rfl rfl rfl rfl (by decide) rfl ?_
        refine i_aload_n rfl rfl ?_
        refine i_getf rfl rfl rfl rfl (by decide) ?_
        refine i_iload_n rfl rfl ?_
        -- at 76
        rw [h1]
        refine i_iast rfl rfl (by first | omega | assumption) (by first | omega | assumption) ?_
        refine i_aload_n rfl rfl ?_
        refine i_getr rfl rfl rfl rfl (by decide) rfl ?_
        refine i_aload_n rfl rfl ?_
        refine i_getf rfl rfl rfl rfl (by decide) ?_
        -- at 85
        rw [show ((gs S n v).1 : Int).toNat = (gs S n v).1 by omega]
        show irun none zp_97 85 _ (iI (M1 18 9) :: _) _ _ 0 0 _
        rw [h1]
        refine i_aload_n rfl rfl ?_
        refine i_getr rfl rfl rfl rfl (by decide) rfl ?_
        refine i_iload_n rfl rfl ?_
        refine i_iald rfl rfl (by first | omega | assumption) (by first | omega | assumption) (by decide) ?_
        -- at 91
        rw [show (v : Int).toNat = v by omega]
        show irun none zp_97 91 _ (iI (M1 27 v) :: _) _ _ 0 0 _
        rw [ho]
        refine i_iast rfl rfl (by first | omega | assumption) (by first | omega | assumption) ?_
        refine i_aload_n rfl rfl ?_
        first | refine i_dup rfl ?_ | refine i_dupr rfl ?_
        refine i_getf rfl rfl rfl rfl (by decide) ?_
        -- at 97
        rw [show ((gs S n v).1 : Int).toNat = (gs S n v).1 by omega]
        show irun none zp_97 97 _ (iI (M1 18 9) :: _) _ _ 0 0 _
        rw [h1]
        refine i_iconst (n := 1) rfl (by unfold iR; omega) ?_
        refine i_iadd rfl (by unfold iR; omega) ?_
        refine i_puti rfl rfl rfl rfl ?_
        refine i_iinc rfl rfl (by unfold iR; omega) (Nat.le_of_ble_eq_true rfl) rfl ?_
        refine i_goto rfl ?_
        -- at 40
        exact g1
      · have eg : gs S n (v + 1) = gs S n v := by
          show (if _ then _ else _) = _
          rw [if_neg c0]
        obtain ⟨M', g1, g2⟩ := ih (v + 1) M1 (by omega) f1 (by rw [eg]; exact h1) (by rw [eg]; exact h2) h3
        refine ⟨M', ?_, g2⟩
        refine i_iload_n rfl rfl ?_
        refine i_sipush (n := 256) rfl (by unfold iR; omega) (by decide) ?_
        refine i_icmp_ge_f rfl (by first | omega | assumption) ?_
        refine i_aload_n rfl rfl ?_
        refine i_getr rfl rfl rfl rfl (by decide) rfl ?_
        refine i_iload_n rfl rfl ?_
        refine i_iald rfl rfl (by first | omega | assumption) (by first | omega | assumption) (by decide) ?_
        -- at 53
        rw [show (v : Int).toNat = v by omega, ho]
        refine i_if_le_t rfl (by first | omega | assumption) ?_
        refine i_iinc rfl rfl (by unfold iR; omega) (Nat.le_of_ble_eq_true rfl) rfl ?_
        refine i_goto rfl ?_
        -- at 40
        exact g1
  -- the first loop
  have loop1 : ∀ (c i : Nat) (M1 : iM), i + c = n → Fr [27] M M1 → (∀ u : Nat, u < 256 → M1 27 u = (oc S (u : Int) i : Int)) → ∃ M2, (∀ q, irun none zp_97 33 [some (iP 18), some (iP 7), some (iI (n : Int)), some (iI (n : Int))] [] (SH b) M2 0 0 q → irun none zp_97 10 [some (iP 18), some (iP 7), some (iI (n : Int)), some (iI (i : Int))] [] (SH b) M1 0 0 q) ∧ Fr [27] M M2 ∧ (∀ u : Nat, u < 256 → M2 27 u = (oc S (u : Int) n : Int)) := by
    intro c
    induction c with
    | zero =>
      intro i M1 hi f1 h1
      obtain rfl : i = n := by omega
      refine ⟨M1, fun q hq => ?_, f1, h1⟩
      refine i_iload_n rfl rfl ?_
      refine i_iload_n rfl rfl ?_
      refine i_icmp_ge_t rfl (by first | omega | assumption) ?_
      -- at 33
      exact hq
    | succ c ih =>
      intro i M1 hi f1 h1
      obtain ⟨s1, s2, s3⟩ := hS i (by omega)
      obtain ⟨u, eu⟩ := Int.eq_ofNat_of_zero_le s2
      have hu := h1 u (by omega)
      have hob := oc_b S (u : Int) i
      obtain ⟨M2, g1, g2⟩ := ih (i + 1) (i_st M1 27 u ((oc S (u : Int) i : Int) + 1)) (by omega) (Fr_st f1 (by decide)) (fun w hw => by
        show va_up (M1 27) u _ w = ((oc S (w : Int) i + (if S i = (w : Int) then 1 else 0) : Nat) : Int)
        by_cases e : w = u
        · rw [e, up_s, if_pos eu]
          omega
        · rw [up_n e, if_neg (by omega), h1 w hw]
          omega)
      refine ⟨M2, fun q hq => ?_, g2⟩
      have g1 := g1 q hq
      refine i_iload_n rfl rfl ?_
      refine i_iload_n rfl rfl ?_
      refine i_icmp_ge_f rfl (by first | omega | assumption) ?_
      refine i_aload_n rfl rfl ?_
      refine i_getr rfl rfl rfl rfl (by decide) rfl ?_
      refine i_aload_n rfl rfl ?_
      refine i_iload_n rfl rfl ?_
      refine i_iald rfl rfl (by first | omega | assumption) (by first | omega | assumption) (by decide) ?_
      -- at 22
      rw [show (i : Int).toNat = i by omega, f1 7 (by decide), s1, eu]
      refine i_dup2 rfl ?_
      refine i_iald rfl rfl (by first | omega | assumption) (by first | omega | assumption) (by decide) ?_
      -- at 24
      rw [show (u : Int).toNat = u by omega, hu]
      refine i_iconst (n := 1) rfl (by unfold iR; omega) ?_
      refine i_iadd rfl (by unfold iR; omega) ?_
      refine i_iast rfl rfl (by first | omega | assumption) (by first | omega | assumption) ?_
      refine i_iinc rfl rfl (by unfold iR; omega) (Nat.le_of_ble_eq_true rfl) rfl ?_
      refine i_goto rfl ?_
      -- at 10
      rw [show (u : Int).toNat = u by omega]
      exact g1
  have r1 := c_afill (sh := SH b) (M := M) (p := 27) (n := 256) (rs := []) (v := 0) rfl (by decide) (by decide)
  obtain ⟨M2, k1, k2, k3⟩ := loop1 n 0 (va_up M 27 (fun k => if k < 256 then 0 else M 27 k)) (by omega) (Fr_up (Fr_r _ _) (by decide)) (fun u hu => by rw [up_s, if_pos hu]; rfl)
  obtain ⟨M', g1, g2⟩ := loop2 256 0 (i_st M2 18 9 0) (by omega) (Fr_st (Fr_t (Fr_r _ _) k2 (by decide)) (by decide)) rfl (fun k hk => by cases hk) k3
  refine ⟨M', ?_, g2⟩
  refine i_aload_n rfl rfl ?_
  refine i_getr rfl rfl rfl rfl (by decide) rfl ?_
  refine i_iconst (n := 0) rfl (by unfold iR; omega) ?_
  -- at 5
  refine i_call (T := (166, zp_166)) rfl rfl (r1) rfl rfl rfl rfl rfl rfl rfl ?_
  try dsimp only
  refine i_iconst (n := 0) rfl (by unfold iR; omega) ?_
  refine i_istore_n rfl (Nat.le_of_ble_eq_true rfl) rfl ?_
  -- at 10
  refine k1 _ ?_
  refine i_aload_n rfl rfl ?_
  refine i_iconst (n := 0) rfl (by unfold iR; omega) ?_
  refine i_puti rfl rfl rfl rfl ?_
  refine i_iconst (n := 0) rfl (by unfold iR; omega) ?_
  refine i_istore_n rfl (Nat.le_of_ble_eq_true rfl) rfl ?_
  -- at 40
  exact g1
def HM (M : iM) (c : Nat) (s : (Nat → Int) × (Nat → Int) × (Nat → Int)) : Prop := ∀ k, k < c → M 23 k = s.1 k ∧ M 20 k = s.2.1 k ∧ M 22 k = s.2.2 k
set_option maxRecDepth 100000 in
theorem c_light {b : Bool} {M : iM} {c : Nat} {T W : Nat → Int} {e : Int} (hc : M 18 9 = (c : Int)) (h127 : c ≤ 127) (hT : ∀ k, k < c → M 23 k = T k ∧ M 22 k = W k) : irun none zp_99 0 (i_ent [iP 18, iI e] 4) [] (SH b) M 0 0 (some (lt T W e c), SH b, M) := by
  have loop : ∀ (d k : Nat), k + d = c → irun none zp_99 4 [some (iP 18), some (iI e), some (iI (lt T W e k)), some (iI (k : Int))] [] (SH b) M 0 0 (some (lt T W e c), SH b, M) := by
    intro d
    induction d with
    | zero =>
      intro k hk
      obtain rfl : k = c := by omega
      refine i_iload_n rfl rfl ?_
      refine i_aload_n rfl rfl ?_
      refine i_getf rfl rfl rfl rfl (by decide) ?_
      refine i_icmp_ge_t rfl (by first | omega | assumption) ?_
      refine i_iload_n rfl rfl ?_
      -- at 56
      exact i_ireturn rfl rfl
    | succ d ih =>
      intro k hk
      have hnx := ih (k + 1) (by omega)
      rw [show lt T W e (k + 1) = if T k = (k : Int) ∧ (k : Int) ≠ e ∧ (lt T W e k = -1 ∨ W k < W (lt T W e k).toNat) then (k : Int) else lt T W e k from rfl] at hnx
      obtain ⟨t1, t2⟩ := hT k (by omega)
      have lb := lt_b (T := T) (W := W) (e := e) k
      refine i_iload_n rfl rfl ?_
      refine i_aload_n rfl rfl ?_
      refine i_getf rfl rfl rfl rfl (by decide) ?_
      refine i_icmp_ge_f rfl (by first | omega | assumption) ?_
      refine i_aload_n rfl rfl ?_
      refine i_getr rfl rfl rfl rfl (by decide) rfl ?_
      refine i_iload_n rfl rfl ?_
      refine i_iald rfl rfl (by first | omega | assumption) (by first | omega | assumption) (by decide) ?_
      -- at 18
      rw [show (k : Int).toNat = k by omega, t1]
      by_cases c1 : T k = (k : Int)
      · by_cases c2 : (k : Int) = e
        · rw [if_neg (fun q => q.2.1 c2)] at hnx
          refine i_iload_n rfl rfl ?_
          refine i_icmp_ne_f rfl (by first | omega | assumption) ?_
          refine i_iload_n rfl rfl ?_
          refine i_iload_n rfl rfl ?_
          refine i_icmp_eq_t rfl (by first | omega | assumption) ?_
          refine i_iinc rfl rfl (by unfold iR; omega) (Nat.le_of_ble_eq_true rfl) rfl ?_
          refine i_goto rfl ?_
          -- at 4
          exact hnx
        · by_cases c3 : lt T W e k = -1
          · rw [if_pos ⟨c1, c2, Or.inl c3⟩] at hnx
            refine i_iload_n rfl rfl ?_
            refine i_icmp_ne_f rfl (by first | omega | assumption) ?_
            refine i_iload_n rfl rfl ?_
            refine i_iload_n rfl rfl ?_
            refine i_icmp_eq_f rfl (by first | omega | assumption) ?_
            refine i_iload_n rfl rfl ?_
            refine i_iconst (n := -1) rfl (by unfold iR; omega) ?_
            refine i_icmp_eq_t rfl (by first | omega | assumption) ?_
            refine i_iload_n rfl rfl ?_
            refine i_istore_n rfl (Nat.le_of_ble_eq_true rfl) rfl ?_
            refine i_iinc rfl rfl (by unfold iR; omega) (Nat.le_of_ble_eq_true rfl) rfl ?_
            refine i_goto rfl ?_
            -- at 4
            exact hnx
          · have t3 := (hT (lt T W e k).toNat (by omega)).2
            by_cases c4 : W k < W (lt T W e k).toNat
            · rw [if_pos ⟨c1, c2, Or.inr c4⟩] at hnx
              refine i_iload_n rfl rfl ?_
              refine i_icmp_ne_f rfl (by first | omega | assumption) ?_
              refine i_iload_n rfl rfl ?_
              refine i_iload_n rfl rfl ?_
              refine i_icmp_eq_f rfl (by first | omega | assumption) ?_
              refine i_iload_n rfl rfl ?_
              refine i_iconst (n := -1) rfl (by unfold iR; omega) ?_
              refine i_icmp_eq_f rfl (by first | omega | assumption) ?_
              refine i_aload_n rfl rfl ?_
              refine i_getr rfl rfl rfl rfl (by decide) rfl ?_
              refine i_iload_n rfl rfl ?_
              refine i_iald rfl rfl (by first | omega | assumption) (by first | omega | assumption) (by decide) ?_
              -- at 38
              rw [show (k : Int).toNat = k by omega, t2]
              refine i_aload_n rfl rfl ?_
              refine i_getr rfl rfl rfl rfl (by decide) rfl ?_
              refine i_iload_n rfl rfl ?_
              refine i_iald rfl rfl (by first | omega | assumption) (by first | omega | assumption) (by decide) ?_
              -- at 44
              rw [t3]
              refine i_icmp_ge_f rfl (by first | omega | assumption) ?_
              refine i_iload_n rfl rfl ?_
              refine i_istore_n rfl (Nat.le_of_ble_eq_true rfl) rfl ?_
              refine i_iinc rfl rfl (by unfold iR; omega) (Nat.le_of_ble_eq_true rfl) rfl ?_
              refine i_goto rfl ?_
              -- at 4
              exact hnx
            · rw [if_neg (fun q => q.2.2.elim c3 c4)] at hnx
              refine i_iload_n rfl rfl ?_
              refine i_icmp_ne_f rfl (by first | omega | assumption) ?_
              refine i_iload_n rfl rfl ?_
              refine i_iload_n rfl rfl ?_
              refine i_icmp_eq_f rfl (by first | omega | assumption) ?_
              refine i_iload_n rfl rfl ?_
              refine i_iconst (n := -1) rfl (by unfold iR; omega) ?_
              refine i_icmp_eq_f rfl (by first | omega | assumption) ?_
              refine i_aload_n rfl rfl ?_
              refine i_getr rfl rfl rfl rfl (by decide) rfl ?_
              refine i_iload_n rfl rfl ?_
              refine i_iald rfl rfl (by first | omega | assumption) (by first | omega | assumption) (by decide) ?_
              -- at 38
              rw [show (k : Int).toNat = k by omega, t2]
              refine i_aload_n rfl rfl ?_
              refine i_getr rfl rfl rfl rfl (by decide) rfl ?_
              refine i_iload_n rfl rfl ?_
              refine i_iald rfl rfl (by first | omega | assumption) (by first | omega | assumption) (by decide) ?_
              -- at 44
              rw [t3]
              refine i_icmp_ge_t rfl (by first | omega | assumption) ?_
              refine i_iinc rfl rfl (by unfold iR; omega) (Nat.le_of_ble_eq_true rfl) rfl ?_
              refine i_goto rfl ?_
              -- at 4
              exact hnx
      · rw [if_neg (fun q => c1 q.1)] at hnx
        refine i_iload_n rfl rfl ?_
        refine i_icmp_ne_t rfl (by first | omega | assumption) ?_
        refine i_iinc rfl rfl (by unfold iR; omega) (Nat.le_of_ble_eq_true rfl) rfl ?_
        refine i_goto rfl ?_
        -- at 4
        exact hnx
  refine i_iconst (n := -1) rfl (by unfold iR; omega) ?_
  refine i_istore_n rfl (Nat.le_of_ble_eq_true rfl) rfl ?_
  refine i_iconst (n := 0) rfl (by unfold iR; omega) ?_
  refine i_istore_n rfl (Nat.le_of_ble_eq_true rfl) rfl ?_
  -- at 4
  exact loop c 0 (by omega)
set_option maxRecDepth 100000 in
theorem c_join {b : Bool} {M : iM} {c p g : Nat} {T L W : Nat → Int} (hc : M 18 9 = (c : Int)) (h127 : c ≤ 127) (h : HM M c (T, L, W)) (hp : p < c) (hg : g < c) (hL : ∀ k, k < c → 0 ≤ L k ∧ L k ≤ 1000) (hW : ∀ k, k < c → -10000 ≤ W k ∧ W k ≤ 10000) : ∃ M', irun none zp_100 0 (i_ent [iP 18, iI (p : Int), iI (g : Int)] 4) [] (SH b) M 0 0 (none, SH b, M') ∧ Fr [20, 22, 23] M M' ∧ HM M' c (jT c T p g, jL c T L p g, jW W p g) := by
  have loop : ∀ (d k : Nat) (M1 : iM), k + d = c → M1 18 9 = (c : Int) → (∀ j, j < k → M1 23 j = jT c T p g j ∧ M1 20 j = jL c T L p g j) → (∀ j, k ≤ j → j < c → M1 23 j = T j ∧ M1 20 j = L j) → ∃ M', irun none zp_100 17 [some (iP 18), some (iI (p : Int)), some (iI (g : Int)), some (iI (k : Int))] [] (SH b) M1 0 0 (none, SH b, M') ∧ Fr [20, 23] M1 M' ∧ ∀ j, j < c → M' 23 j = jT c T p g j ∧ M' 20 j = jL c T L p g j := by
    intro d
    induction d with
    | zero =>
      intro k M1 hk hc h1 h2
      obtain rfl : k = c := by omega
      refine ⟨M1, ?_, Fr_r _ _, h1⟩
      refine i_iload_n rfl rfl ?_
      refine i_aload_n rfl rfl ?_
      refine i_getf rfl rfl rfl rfl (by decide) ?_
      refine i_icmp_ge_t rfl (by first | omega | assumption) ?_
      -- at 68
      exact i_vreturn rfl rfl
    | succ d ih =>
      intro k M1 hk hc h1 h2
      obtain ⟨t1, t2⟩ := h2 k (Nat.le_refl _) (by omega)
      have lk := hL k (by omega)
      by_cases m : T k = (p : Int) ∨ T k = (g : Int)
      · have e1 := jT_m (c := c) (k := k) (by omega) m
        have e2 := jL_m (L := L) (c := c) (k := k) (by omega) m
        obtain ⟨M', g1, g2, g3⟩ := ih (k + 1) (i_st (i_st M1 23 k (p : Int)) 20 k (L k + 1)) (by omega) hc (fun j hj => by
          show va_up (M1 23) k _ j = _ ∧ va_up (M1 20) k _ j = _
          by_cases e : j = k
          · rw [e, up_s, up_s, e1, e2]; exact ⟨rfl, rfl⟩
          · rw [up_n e, up_n e]; exact h1 j (by omega)) (fun j hj1 hj2 => by
          show va_up (M1 23) k _ j = _ ∧ va_up (M1 20) k _ j = _
          rw [up_n (by omega), up_n (by omega)]
          exact h2 j (by omega) hj2)
        refine ⟨M', ?_, Fr_t (Fr_st (Fr_st (Fr_r _ _) (by decide)) (by decide)) g2 (by decide), g3⟩
        have rest : irun none zp_100 45 [some (iP 18), some (iI (p : Int)), some (iI (g : Int)), some (iI (k : Int))] [] (SH b) M1 0 0 (none, SH b, M') := by
          refine i_aload_n rfl rfl ?_
          refine i_getr rfl rfl rfl rfl (by decide) rfl ?_
          refine i_iload_n rfl rfl ?_
          refine i_iload_n rfl rfl ?_
          refine i_iast rfl rfl (by first | omega | assumption) (by first | omega | assumption) ?_
          refine i_aload_n rfl rfl ?_
          refine i_getr rfl rfl rfl rfl (by decide) rfl ?_
          refine i_iload_n rfl rfl ?_
          refine i_dup2 rfl ?_
          refine i_iald rfl rfl (by first | omega | assumption) (by first | omega | assumption) (by decide) ?_
          -- at 59
          rw [show (k : Int).toNat = k by omega]
          show irun none zp_100 59 _ (iI (M1 20 k) :: _) _ _ 0 0 _
          rw [t2]
          refine i_iconst (n := 1) rfl (by unfold iR; omega) ?_
          refine i_iadd rfl (by unfold iR; omega) ?_
          refine i_iast rfl rfl (by first | omega | assumption) (by first | omega | assumption) ?_
          refine i_iinc rfl rfl (by unfold iR; omega) (Nat.le_of_ble_eq_true rfl) rfl ?_
          refine i_goto rfl ?_
          -- at 17
          rw [show (k : Int).toNat = k by omega]
          exact g1
        refine i_iload_n rfl rfl ?_
        refine i_aload_n rfl rfl ?_
        refine i_getf rfl rfl rfl rfl (by decide) ?_
        refine i_icmp_ge_f rfl (by first | omega | assumption) ?_
        refine i_aload_n rfl rfl ?_
        refine i_getr rfl rfl rfl rfl (by decide) rfl ?_
        refine i_iload_n rfl rfl ?_
        refine i_iald rfl rfl (by first | omega | assumption) (by first | omega | assumption) (by decide) ?_
        -- at 31
        rw [show (k : Int).toNat = k by omega, t1]
        by_cases m1 : T k = (p : Int)
        · refine i_iload_n rfl rfl ?_
          refine i_icmp_eq_t rfl (by first | omega | assumption) ?_
          -- at 45
          exact rest
        · refine i_iload_n rfl rfl ?_
          refine i_icmp_eq_f rfl (by first | omega | assumption) ?_
          refine i_aload_n rfl rfl ?_
          refine i_getr rfl rfl rfl rfl (by decide) rfl ?_
          refine i_iload_n rfl rfl ?_
          refine i_iald rfl rfl (by first | omega | assumption) (by first | omega | assumption) (by decide) ?_
          -- at 41
          rw [show (k : Int).toNat = k by omega, t1]
          refine i_iload_n rfl rfl ?_
          refine i_icmp_ne_f rfl (by first | omega | assumption) ?_
          -- at 45
          exact rest
      · have e1 := jT_o (c := c) (k := k) m
        have e2 := jL_o (L := L) (c := c) (k := k) m
        obtain ⟨M', g1, g2, g3⟩ := ih (k + 1) M1 (by omega) hc (fun j hj => by
          by_cases e : j = k
          · rw [e, e1, e2]; exact ⟨t1, t2⟩
          · exact h1 j (by omega)) (fun j hj1 hj2 => h2 j (by omega) hj2)
        refine ⟨M', ?_, g2, g3⟩
        refine i_iload_n rfl rfl ?_
        refine i_aload_n rfl rfl ?_
        refine i_getf rfl rfl rfl rfl (by decide) ?_
        refine i_icmp_ge_f rfl (by first | omega | assumption) ?_
        refine i_aload_n rfl rfl ?_
        refine i_getr rfl rfl rfl rfl (by decide) rfl ?_
        refine i_iload_n rfl rfl ?_
        refine i_iald rfl rfl (by first | omega | assumption) (by first | omega | assumption) (by decide) ?_
        -- at 31
        rw [show (k : Int).toNat = k by omega, t1]
        refine i_iload_n rfl rfl ?_
        refine i_icmp_eq_f rfl (by first | omega | assumption) ?_
        refine i_aload_n rfl rfl ?_
        refine i_getr rfl rfl rfl rfl (by decide) rfl ?_
        refine i_iload_n rfl rfl ?_
        refine i_iald rfl rfl (by first | omega | assumption) (by first | omega | assumption) (by decide) ?_
        -- at 41
        rw [show (k : Int).toNat = k by omega, t1]
        refine i_iload_n rfl rfl ?_
        refine i_icmp_ne_t rfl (by first | omega | assumption) ?_
        refine i_iinc rfl rfl (by unfold iR; omega) (Nat.le_of_ble_eq_true rfl) rfl ?_
        refine i_goto rfl ?_
        -- at 17
        exact g1
  have wp := (h p hp).2.2
  have wg := (h g hg).2.2
  have wp : M 22 p = W p := wp
  have wg : M 22 g = W g := wg
  have bp := hW p hp
  have bg := hW g hg
  obtain ⟨M', g1, g2, g3⟩ := loop c 0 (i_st M 22 p (W p + W g)) (by omega) hc (fun j hj => by omega) (fun j _ hj => ⟨(h j hj).1, (h j hj).2.1⟩)
  refine ⟨M', ?_, Fr_t (Fr_st (Fr_r _ _) (by decide)) g2 (by decide), fun k hk => ⟨(g3 k hk).1, (g3 k hk).2, ?_⟩⟩
  · refine i_aload_n rfl rfl ?_
    refine i_getr rfl rfl rfl rfl (by decide) rfl ?_
    refine i_iload_n rfl rfl ?_
    refine i_dup2 rfl ?_
    refine i_iald rfl rfl (by first | omega | assumption) (by first | omega | assumption) (by decide) ?_
    -- at 7
    rw [show (p : Int).toNat = p by omega, wp]
    refine i_aload_n rfl rfl ?_
    refine i_getr rfl rfl rfl rfl (by decide) rfl ?_
    refine i_iload_n rfl rfl ?_
    refine i_iald rfl rfl (by first | omega | assumption) (by first | omega | assumption) (by decide) ?_
    -- at 13
    rw [show (g : Int).toNat = g by omega, wg]
    refine i_iadd rfl (by unfold iR; omega) ?_
    refine i_iast rfl rfl (by first | omega | assumption) (by first | omega | assumption) ?_
    refine i_iconst (n := 0) rfl (by unfold iR; omega) ?_
    refine i_istore_n rfl (Nat.le_of_ble_eq_true rfl) rfl ?_
    -- at 17
    rw [show (p : Int).toNat = p by omega]
    exact g1
  · rw [g2 22 (by decide)]
    show va_up (M 22) p (W p + W g) k = va_up W p (W p + W g) k
    by_cases e : k = p
    · rw [e, up_s, up_s]
    · rw [up_n e, up_n e]
      exact (h k hk).2.2
