theorem h_pg {c : Nat} {s : (Nat → Int) × (Nat → Int) × (Nat → Int)} (hr : 2 ≤ rc s.1 c) : ∃ x y p g : Nat, hP1 c s = (x : Int) ∧ hP2 c s = (y : Int) ∧ x < c ∧ y < c ∧ x ≠ y ∧ s.1 x = (x : Int) ∧ s.1 y = (y : Int) ∧ ((p = x ∧ g = y ∧ x < y) ∨ (p = y ∧ g = x ∧ y < x)) ∧ mn (x : Int) y = (p : Int) ∧ mx (x : Int) y = (g : Int) ∧ hst c s = (jT c s.1 p g, jL c s.1 s.2.1 p g, jW s.2.2 p g) := by
  obtain ⟨x, y, ex, ey, hx, hy, hxy, tx, ty, mx1, my1⟩ := h_two hr
  by_cases hlt : x < y
  · have e1 : mn (x : Int) y = (x : Int) := by unfold mn; rw [if_neg (by omega)]
    have e2 : mx (x : Int) y = (y : Int) := by unfold mx; rw [if_pos (by omega)]
    refine ⟨x, y, x, y, ex, ey, hx, hy, hxy, tx, ty, Or.inl ⟨rfl, rfl, hlt⟩, e1, e2, ?_⟩
    unfold hst
    rw [ex, ey, e1, e2]
  · have e1 : mn (x : Int) y = (y : Int) := by unfold mn; rw [if_pos (by omega)]
    have e2 : mx (x : Int) y = (x : Int) := by unfold mx; rw [if_neg (by omega)]
    refine ⟨x, y, y, x, ex, ey, hx, hy, hxy, tx, ty, Or.inr ⟨rfl, rfl, by omega⟩, e1, e2, ?_⟩
    unfold hst
    rw [ex, ey, e1, e2]
theorem hs_bd {c : Nat} {W : Nat → Int} {tot : Int} (hc : 2 ≤ c) (hW : ∀ k, k < c → 1 ≤ W k) (ht : sm W c = tot) : ∀ r, r + 1 ≤ c → ∀ k, k < c → (0 ≤ (hs c W r).2.1 k ∧ (hs c W r).2.1 k ≤ r) ∧ 0 ≤ (hs c W r).2.2 k ∧ (hs c W r).2.2 k ≤ tot := by
  intro r
  induction r with
  | zero =>
    intro _ k hk
    have e0 : (hs c W 0).2.1 k = 0 := by show (if c = 1 then (1 : Int) else 0) = 0; rw [if_neg (by omega)]
    have h1 := hW k hk
    have h2 := (sm_ge (f := W) (n := c) (fun z hz => by have := hW z hz; omega)).2 k hk
    refine ⟨⟨by omega, by omega⟩, ?_, ?_⟩
    · show 0 ≤ W k
      omega
    · show W k ≤ tot
      omega
  | succ r ih =>
    intro hr k hk
    obtain ⟨g1, g2⟩ := hs_ok hc hW ht r (by omega)
    obtain ⟨⟨_, q2, q3, _⟩, _⟩ := hs_ok hc hW ht (r + 1) hr
    obtain ⟨a1, a2, a3⟩ := ih (by omega) k hk
    obtain ⟨x, y, p, g, ex, ey, hx, hy, hxy, tx, ty, hpg, _, _, es⟩ := h_pg (c := c) (s := hs c W r) (by omega)
    have es : hs c W (r + 1) = (jT c (hs c W r).1 p g, jL c (hs c W r).1 (hs c W r).2.1 p g, jW (hs c W r).2.2 p g) := es
    refine ⟨?_, ?_⟩
    · rw [es]
      try dsimp only
      unfold jL
      split <;> omega
    · by_cases e : k = p
      · have tp : (hs c W (r + 1)).1 k = (k : Int) := by
          rw [es, e]
          try dsimp only
          refine jT_m (by omega) ?_
          rcases hpg with ⟨rfl, _⟩ | ⟨rfl, _⟩
          · exact Or.inl tx
          · exact Or.inl ty
        have h1 := q2 k hk tp
        have h2 := (sm_ge (f := rw' (hs c W (r + 1)).1 (hs c W (r + 1)).2.2) (n := c) (fun z hz => by
          unfold rw'
          split
          · rename_i q
            have := q2 z hz q
            omega
          · omega)).2 k hk
        rw [q3] at h2
        unfold rw' at h2
        rw [if_pos tp] at h2
        omega
      · rw [es]
        show 0 ≤ va_up (hs c W r).2.2 (p : Int).toNat _ k ∧ va_up (hs c W r).2.2 (p : Int).toNat _ k ≤ tot
        rw [up_n (by omega)]
        omega
set_option maxRecDepth 100000 in
theorem c_makeLengths {b : Bool} {M : iM} {c : Nat} {W : Nat → Int} (hc : M 18 9 = (c : Int)) (h1 : 1 ≤ c) (h127 : c ≤ 127) (hW : ∀ k, k < c → M 22 k = W k ∧ 1 ≤ W k) (ht : sm W c ≤ 96) : ∃ M', irun none zp_98 0 (i_ent [iP 18] 4) [] (SH b) M 0 0 (none, SH b, M') ∧ Fr [20, 22, 23] M M' ∧ ∀ k, k < c → M' 20 k = (hs c W (c - 1)).2.1 k := by
  have hW1 : ∀ k, k < c → 1 ≤ W k := fun k hk => (hW k hk).2
  have outer : ∀ (d r : Nat) (M1 : iM) (x y : Option iV), r + d + 1 = c → Fr [20, 22, 23] M M1 → HM M1 c (hs c W r) → ∃ M', irun none zp_98 47 [some (iP 18), some (iI ((c : Int) - (r : Int))), x, y] [] (SH b) M1 0 0 (none, SH b, M') ∧ Fr [20, 22, 23] M M' ∧ ∀ k, k < c → M' 20 k = (hs c W (c - 1)).2.1 k := by
    intro d
    induction d with
    | zero =>
      intro r M1 x y hr f1 m1
      refine ⟨M1, ?_, f1, fun k hk => by rw [show c - 1 = r by omega]; exact (m1 k hk).2.1⟩
      refine i_iload_n rfl rfl ?_
      refine i_iconst (n := 1) rfl (by unfold iR; omega) ?_
      refine i_icmp_le_t rfl (by first | omega | assumption) ?_
      -- at 84
      exact i_vreturn rfl rfl
    | succ d ih =>
      intro r M1 x y hr f1 m1
      obtain ⟨g1, g2⟩ := hs_ok (tot := sm W c) (by omega) hW1 rfl r (by omega)
      obtain ⟨u, v, p, g, ex, ey, hx, hy, hxy, tx, ty, hpg, e1, e2, es⟩ := h_pg (c := c) (s := hs c W r) (by omega)
      have es : hs c W (r + 1) = (jT c (hs c W r).1 p g, jL c (hs c W r).1 (hs c W r).2.1 p g, jW (hs c W r).2.2 p g) := es
      have hc1 : M1 18 9 = (c : Int) := by rw [f1 18 (by decide)]; exact hc
      have bd := hs_bd (tot := sm W c) (by omega) hW1 rfl r (by omega)
      obtain ⟨M2, j1, j2, j3⟩ := c_join (b := b) (p := p) (g := g) (T := (hs c W r).1) (L := (hs c W r).2.1) (W := (hs c W r).2.2) hc1 h127 m1 (by omega) (by omega) (fun k hk => by have := bd k hk; omega) (fun k hk => by have := bd k hk; omega)
      obtain ⟨M', k1, k2⟩ := ih (r + 1) M2 (some (iI (u : Int))) (some (iI (v : Int))) (by omega) (Fr_t f1 j2 (by decide)) (by rw [es]; exact j3)
      refine ⟨M', ?_, k2⟩
      have l1 := c_light (b := b) (e := -1) hc1 h127 (T := (hs c W r).1) (W := (hs c W r).2.2) (fun k hk => ⟨(m1 k hk).1, (m1 k hk).2.2⟩)
      have l2 := c_light (b := b) (e := (u : Int)) hc1 h127 (T := (hs c W r).1) (W := (hs c W r).2.2) (fun k hk => ⟨(m1 k hk).1, (m1 k hk).2.2⟩)
      rw [show lt (hs c W r).1 (hs c W r).2.2 (-1) c = (u : Int) from ex] at l1
      rw [show lt (hs c W r).1 (hs c W r).2.2 (u : Int) c = (v : Int) by rw [← ex]; exact ey] at l2
      rw [show (c : Int) - ((r + 1 : Nat) : Int) = (c : Int) - (r : Int) + -1 by omega] at k1
      refine i_iload_n rfl rfl ?_
      refine i_iconst (n := 1) rfl (by unfold iR; omega) ?_
      refine i_icmp_le_f rfl (by first | omega | assumption) ?_
      refine i_aload_n rfl rfl ?_
      refine i_iconst (n := -1) rfl (by unfold iR; omega) ?_
      -- at 54
      refine i_call (T := (99, zp_99)) rfl rfl (l1) rfl rfl rfl rfl rfl rfl rfl ?_
      try dsimp only
      show irun none zp_98 57 _ (iI ((u : Int)) :: _) _ _ 0 0 _
      refine i_istore_n rfl (Nat.le_of_ble_eq_true rfl) rfl ?_
      refine i_aload_n rfl rfl ?_
      refine i_iload_n rfl rfl ?_
      -- at 60
      refine i_call (T := (99, zp_99)) rfl rfl (l2) rfl rfl rfl rfl rfl rfl rfl ?_
      try dsimp only
      show irun none zp_98 63 _ (iI ((v : Int)) :: _) _ _ 0 0 _
      refine i_istore_n rfl (Nat.le_of_ble_eq_true rfl) rfl ?_
      refine i_aload_n rfl rfl ?_
      refine i_iload_n rfl rfl ?_
      refine i_iload_n rfl rfl ?_
      refine i_min rfl rfl (Nat.le_of_ble_eq_true rfl) ?_
      -- at 70
      rw [show (if (v : Int) < (u : Int) then (v : Int) else (u : Int)) = (p : Int) from e1]
      refine i_iload_n rfl rfl ?_
      refine i_iload_n rfl rfl ?_
      refine i_max rfl rfl (Nat.le_of_ble_eq_true rfl) ?_
      -- at 75
      rw [show (if (u : Int) < (v : Int) then (v : Int) else (u : Int)) = (g : Int) from e2]
      refine i_call (T := (100, zp_100)) rfl rfl (j1) rfl rfl rfl rfl rfl rfl rfl ?_
      try dsimp only
      refine i_iinc rfl rfl (by unfold iR; omega) (Nat.le_of_ble_eq_true rfl) rfl ?_
      refine i_goto rfl ?_
      -- at 47
      exact k1
  have init : ∀ (d k : Nat) (M1 : iM), k + d = c → Fr [20, 23] M M1 → (∀ j, j < k → M1 23 j = (hs c W 0).1 j ∧ M1 20 j = (hs c W 0).2.1 j) → ∃ M2, (∀ q, irun none zp_98 42 [some (iP 18), some (iI (c : Int)), none, none] [] (SH b) M2 0 0 q → irun none zp_98 2 [some (iP 18), some (iI (k : Int)), none, none] [] (SH b) M1 0 0 q) ∧ Fr [20, 23] M M2 ∧ ∀ j, j < c → M2 23 j = (hs c W 0).1 j ∧ M2 20 j = (hs c W 0).2.1 j := by
    intro d
    induction d with
    | zero =>
      intro k M1 hk f1 h
      obtain rfl : k = c := by omega
      have hc1 : M1 18 9 = (k : Int) := by rw [f1 18 (by decide)]; exact hc
      refine ⟨M1, fun q hq => ?_, f1, h⟩
      refine i_iload_n rfl rfl ?_
      refine i_aload_n rfl rfl ?_
      refine i_getf rfl rfl rfl rfl (by decide) ?_
      refine i_icmp_ge_t rfl (by first | omega | assumption) ?_
      -- at 42
      exact hq
    | succ d ih =>
      intro k M1 hk f1 h
      have hc1 : M1 18 9 = (c : Int) := by rw [f1 18 (by decide)]; exact hc
      obtain ⟨M2, k1, k2⟩ := ih (k + 1) (i_st (i_st M1 23 k (k : Int)) 20 k (if c = 1 then 1 else 0)) (by omega) (Fr_st (Fr_st f1 (by decide)) (by decide)) (fun j hj => by
        show va_up (M1 23) k _ j = (j : Int) ∧ va_up (M1 20) k _ j = if c = 1 then 1 else 0
        by_cases e : j = k
        · rw [e, up_s, up_s]; exact ⟨rfl, rfl⟩
        · rw [up_n e, up_n e]; exact h j (by omega))
      refine ⟨M2, fun q hq => ?_, k2⟩
      have k1 := k1 q hq
      refine i_iload_n rfl rfl ?_
      refine i_aload_n rfl rfl ?_
      refine i_getf rfl rfl rfl rfl (by decide) ?_
      refine i_icmp_ge_f rfl (by first | omega | assumption) ?_
      refine i_aload_n rfl rfl ?_
      refine i_getr rfl rfl rfl rfl (by decide) rfl ?_
      refine i_iload_n rfl rfl ?_
      refine i_iload_n rfl rfl ?_
      refine i_iast rfl rfl (by first | omega | assumption) (by first | omega | assumption) ?_
      -- at 17
      rw [show (k : Int).toNat = k by omega]
      refine i_aload_n rfl rfl ?_
      refine i_getr rfl rfl rfl rfl (by decide) rfl ?_
      refine i_iload_n rfl rfl ?_
      refine i_aload_n rfl rfl ?_
      refine i_getf rfl rfl rfl rfl (by decide) ?_
      -- at 26
      show irun none zp_98 26 _ (iI (M1 18 9) :: _) _ _ 0 0 _
      rw [hc1]
      by_cases e : c = 1
      · rw [if_pos e] at k1
        refine i_iconst (n := 1) rfl (by unfold iR; omega) ?_
        refine i_icmp_ne_f rfl (by first | omega | assumption) ?_
        refine i_iconst (n := 1) rfl (by unfold iR; omega) ?_
        refine i_goto rfl ?_
        refine i_iast rfl rfl (by first | omega | assumption) (by first | omega | assumption) ?_
        refine i_iinc rfl rfl (by unfold iR; omega) (Nat.le_of_ble_eq_true rfl) rfl ?_
        refine i_goto rfl ?_
        -- at 2
        rw [show (k : Int).toNat = k by omega]
        exact k1
      · rw [if_neg e] at k1
        refine i_iconst (n := 1) rfl (by unfold iR; omega) ?_
        refine i_icmp_ne_t rfl (by first | omega | assumption) ?_
        refine i_iconst (n := 0) rfl (by unfold iR; omega) ?_
        refine i_iast rfl rfl (by first | omega | assumption) (by first | omega | assumption) ?_
        refine i_iinc rfl rfl (by unfold iR; omega) (Nat.le_of_ble_eq_true rfl) rfl ?_
        refine i_goto rfl ?_
        -- at 2
        rw [show (k : Int).toNat = k by omega]
        exact k1
  obtain ⟨M2, k1, k2, k3⟩ := init c 0 M (by omega) (Fr_r _ _) (fun j hj => by omega)
  obtain ⟨M', o1, o2⟩ := outer (c - 1) 0 M2 none none (by omega) (Fr_t (Fr_r _ _) k2 (by decide)) (fun k hk => ⟨(k3 k hk).1, (k3 k hk).2, by rw [k2 22 (by decide)]; exact (hW k hk).1⟩)
  refine ⟨M', ?_, o2⟩
  have hc2 : M2 18 9 = (c : Int) := by rw [k2 18 (by decide)]; exact hc
  refine i_iconst (n := 0) rfl (by unfold iR; omega) ?_
  refine i_istore_n rfl (Nat.le_of_ble_eq_true rfl) rfl ?_
  -- at 2
  refine k1 _ ?_
  refine i_aload_n rfl rfl ?_
  refine i_getf rfl rfl rfl rfl (by decide) ?_
  -- at 46
  rw [hc2]
  refine i_istore_n rfl (Nat.le_of_ble_eq_true rfl) rfl ?_
  -- at 47
  rw [show (c : Int) - ((0 : Nat) : Int) = (c : Int) by omega] at o1
  exact o1
