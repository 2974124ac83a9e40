def RM (M : iM) (c : Nat) (t l w q : Nat → Int) : Prop := ∀ k, k < c → M 55 k = t k ∧ M 56 k = l k ∧ M 58 k = w k ∧ M 59 k = q k
set_option maxRecDepth 100000 in
theorem d_merge {b : Bool} {M : iM} {c u v : Nat} {t l w q : Nat → Int} {r : Int} {z : Option iV} (hc : M 40 26 = (c : Int)) (h127 : c ≤ 127) (h : RM M c t l w q) (hu : u < c) (hv : v < c) (hl : ∀ k, k < c → 0 ≤ l k ∧ l k ≤ 1000) (hw : ∀ k, k < c → -10000 ≤ w k ∧ w k ≤ 10000) : ∃ M2, (∀ o, irun none zp_126 204 [some (iP 40), some (iI r), some (iI (u : Int)), some (iI (v : Int)), some (iI (c : Int))] [] (SH b) M2 0 0 o → irun none zp_126 83 [some (iP 40), some (iI r), some (iI (u : Int)), some (iI (v : Int)), z] [] (SH b) M 0 0 o) ∧ Fr [55, 56, 58, 59] M M2 ∧ RM M2 c (rT t u v) (rL t l u v) (rW w u v) (rQ q u v) := by
  have loop : ∀ (d k : Nat) (M1 : iM), k + d = c → Fr [55, 56] M M1 → (∀ j, j < k → M1 55 j = rT t u v j ∧ M1 56 j = rL t l u v j) → (∀ j, k ≤ j → j < c → M1 55 j = t j ∧ M1 56 j = l j) → ∃ M2, (∀ o, irun none zp_126 142 [some (iP 40), some (iI r), some (iI (u : Int)), some (iI (v : Int)), some (iI (c : Int))] [] (SH b) M2 0 0 o → irun none zp_126 86 [some (iP 40), some (iI r), some (iI (u : Int)), some (iI (v : Int)), some (iI (k : Int))] [] (SH b) M1 0 0 o) ∧ Fr [55, 56] M M2 ∧ ∀ j, j < c → M2 55 j = rT t u v j ∧ M2 56 j = rL t l u v j := by
    intro d
    induction d with
    | zero =>
      intro k M1 hk f1 h1 h2
      obtain rfl : k = c := by omega
      have hc1 : M1 40 26 = (k : Int) := by rw [f1 40 (by decide)]; exact hc
      refine ⟨M1, fun o ho => ?_, f1, h1⟩
      refine i_iload rfl rfl ?_
      refine i_aload_n rfl rfl ?_
      refine i_getf rfl rfl rfl rfl (by decide) ?_
      refine i_icmp_ge_t rfl (by first | omega | assumption) ?_
      -- at 142
      exact ho
    | succ d ih =>
      intro k M1 hk f1 h1 h2
      have hc1 : M1 40 26 = (c : Int) := by rw [f1 40 (by decide)]; exact hc
      obtain ⟨t1, t2⟩ := h2 k (Nat.le_refl _) (by omega)
      have lk := hl k (by omega)
      by_cases m : t k = (u : Int) ∨ t k = (v : Int)
      · have e1 : rT t u v k = (u : Int) := by unfold rT; rw [if_pos m]
        have e2 : rL t l u v k = l k + 1 := by unfold rL; rw [if_pos m]
        obtain ⟨M2, g1, g2⟩ := ih (k + 1) (i_st (i_st M1 56 k (l k + 1)) 55 k (u : Int)) (by omega) (Fr_st (Fr_st f1 (by decide)) (by decide)) (fun j hj => by
          show va_up (M1 55) k _ j = _ ∧ va_up (M1 56) k _ j = _
          by_cases e : j = k
          · rw [e, up_s, up_s, e1, e2]; exact ⟨rfl, rfl⟩
          · rw [up_n e, up_n e]; exact h1 j (by omega)) (fun j hj1 hj2 => by
          show va_up (M1 55) k _ j = _ ∧ va_up (M1 56) k _ j = _
          rw [up_n (by omega), up_n (by omega)]
          exact h2 j (by omega) hj2)
        refine ⟨M2, fun o ho => ?_, g2⟩
        have g1 := g1 o ho
        have rest : irun none zp_126 117 [some (iP 40), some (iI r), some (iI (u : Int)), some (iI (v : Int)), some (iI (k : Int))] [] (SH b) M1 0 0 o := by
          refine i_aload_n rfl rfl ?_
          refine i_getr rfl rfl rfl rfl (by decide) rfl ?_
          refine i_iload rfl rfl ?_
          refine i_dup2 rfl ?_
          refine i_iald rfl rfl (by first | omega | assumption) (by first | omega | assumption) (by decide) ?_
          -- at 125
          rw [show (k : Int).toNat = k by omega, t2]
          refine i_iconst (n := 1) rfl (by unfold iR; omega) ?_
          refine i_iadd rfl (by unfold iR; omega) ?_
          refine i_iast rfl rfl (by first | omega | assumption) (by first | omega | assumption) ?_
          refine i_aload_n rfl rfl ?_
          refine i_getr rfl rfl rfl rfl (by decide) rfl ?_
          refine i_iload rfl rfl ?_
          refine i_iload_n rfl rfl ?_
          refine i_iast rfl rfl (by first | omega | assumption) (by first | omega | assumption) ?_
          refine i_iinc rfl rfl (by unfold iR; omega) (Nat.le_of_ble_eq_true rfl) rfl ?_
          refine i_goto rfl ?_
          -- at 86
          rw [show (k : Int).toNat = k by omega]
          exact g1
        refine i_iload rfl rfl ?_
        refine i_aload_n rfl rfl ?_
        refine i_getf rfl rfl rfl rfl (by decide) ?_
        refine i_icmp_ge_f rfl (by first | omega | assumption) ?_
        refine i_aload_n rfl rfl ?_
        refine i_getr rfl rfl rfl rfl (by decide) rfl ?_
        refine i_iload rfl rfl ?_
        refine i_iald rfl rfl (by first | omega | assumption) (by first | omega | assumption) (by decide) ?_
        -- at 102
        rw [show (k : Int).toNat = k by omega, t1]
        by_cases m1 : t k = (u : Int)
        · refine i_iload_n rfl rfl ?_
          refine i_icmp_eq_t rfl (by first | omega | assumption) ?_
          -- at 117
          exact rest
        · refine i_iload_n rfl rfl ?_
          refine i_icmp_eq_f rfl (by first | omega | assumption) ?_
          refine i_aload_n rfl rfl ?_
          refine i_getr rfl rfl rfl rfl (by decide) rfl ?_
          refine i_iload rfl rfl ?_
          refine i_iald rfl rfl (by first | omega | assumption) (by first | omega | assumption) (by decide) ?_
          -- at 113
          rw [show (k : Int).toNat = k by omega, t1]
          refine i_iload_n rfl rfl ?_
          refine i_icmp_ne_f rfl (by first | omega | assumption) ?_
          -- at 117
          exact rest
      · have e1 : rT t u v k = t k := by unfold rT; rw [if_neg m]
        have e2 : rL t l u v k = l k := by unfold rL; rw [if_neg m]
        obtain ⟨M2, g1, g2⟩ := ih (k + 1) M1 (by omega) f1 (fun j hj => by
          by_cases e : j = k
          · rw [e, e1, e2]; exact ⟨t1, t2⟩
          · exact h1 j (by omega)) (fun j hj1 hj2 => h2 j (by omega) hj2)
        refine ⟨M2, fun o ho => ?_, g2⟩
        have g1 := g1 o ho
        refine i_iload rfl rfl ?_
        refine i_aload_n rfl rfl ?_
        refine i_getf rfl rfl rfl rfl (by decide) ?_
        refine i_icmp_ge_f rfl (by first | omega | assumption) ?_
        refine i_aload_n rfl rfl ?_
        refine i_getr rfl rfl rfl rfl (by decide) rfl ?_
        refine i_iload rfl rfl ?_
        refine i_iald rfl rfl (by first | omega | assumption) (by first | omega | assumption) (by decide) ?_
        -- at 102
        rw [show (k : Int).toNat = k by omega, t1]
        refine i_iload_n rfl rfl ?_
        refine i_icmp_eq_f rfl (by first | omega | assumption) ?_
        refine i_aload_n rfl rfl ?_
        refine i_getr rfl rfl rfl rfl (by decide) rfl ?_
        refine i_iload rfl rfl ?_
        refine i_iald rfl rfl (by first | omega | assumption) (by first | omega | assumption) (by decide) ?_
        -- at 113
        rw [show (k : Int).toNat = k by omega, t1]
        refine i_iload_n rfl rfl ?_
        refine i_icmp_ne_t rfl (by first | omega | assumption) ?_
        refine i_iinc rfl rfl (by unfold iR; omega) (Nat.le_of_ble_eq_true rfl) rfl ?_
        refine i_goto rfl ?_
        -- at 86
        exact g1
  obtain ⟨M1, k1, k2, k3⟩ := loop c 0 M (by omega) (Fr_r _ _) (fun j hj => by omega) (fun j _ hj => ⟨(h j hj).1, (h j hj).2.1⟩)
  have w1 : M1 58 u = w u := by rw [k2 58 (by decide)]; exact (h u hu).2.2.1
  have w2 : M1 58 v = w v := by rw [k2 58 (by decide)]; exact (h v hv).2.2.1
  have q1 : M1 59 u = q u := by rw [k2 59 (by decide)]; exact (h u hu).2.2.2
  have q2 : M1 59 v = q v := by rw [k2 59 (by decide)]; exact (h v hv).2.2.2
  have b1 := hw u hu
  have b2 := hw v hv
  refine ⟨i_st (i_st (i_st M1 58 u (w u + w v)) 58 v 0) 59 u (if q u < q v then q u else q v), fun o ho => ?_, Fr_st (Fr_st (Fr_st (Fr_t (Fr_r _ _) k2 (by decide)) (by decide)) (by decide)) (by decide), fun k hk => ⟨(k3 k hk).1, (k3 k hk).2, ?_, ?_⟩⟩
  · refine i_iconst (n := 0) rfl (by unfold iR; omega) ?_
    refine i_istore rfl (Nat.le_of_ble_eq_true rfl) rfl ?_
    -- at 86
    refine k1 o ?_
    refine i_aload_n rfl rfl ?_
    refine i_getr rfl rfl rfl rfl (by decide) rfl ?_
    refine i_iload_n rfl rfl ?_
    refine i_aload_n rfl rfl ?_
    refine i_getr rfl rfl rfl rfl (by decide) rfl ?_
    refine i_iload_n rfl rfl ?_
    refine i_iald rfl rfl (by first | omega | assumption) (by first | omega | assumption) (by decide) ?_
    -- at 153
    rw [show (u : Int).toNat = u by omega, w1]
    refine i_aload_n rfl rfl ?_
    refine i_getr rfl rfl rfl rfl (by decide) rfl ?_
    refine i_iload_n rfl rfl ?_
    refine i_iald rfl rfl (by first | omega | assumption) (by first | omega | assumption) (by decide) ?_
    -- at 159
    rw [show (v : Int).toNat = v by omega, w2]
    refine i_iadd rfl (by unfold iR; omega) ?_
    refine i_iast rfl rfl (by first | omega | assumption) (by first | omega | assumption) ?_
    -- at 161
    rw [show (u : Int).toNat = u by omega]
    refine i_aload_n rfl rfl ?_
    refine i_getr rfl rfl rfl rfl (by decide) rfl ?_
    refine i_iload_n rfl rfl ?_
    refine i_iconst (n := 0) rfl (by unfold iR; omega) ?_
    refine i_iast rfl rfl (by first | omega | assumption) (by first | omega | assumption) ?_
    -- at 168
    rw [show (v : Int).toNat = v by omega]
    refine i_aload_n rfl rfl ?_
    refine i_getr rfl rfl rfl rfl (by decide) rfl ?_
    refine i_iload_n rfl rfl ?_
    refine i_aload_n rfl rfl ?_
    refine i_getr rfl rfl rfl rfl (by decide) rfl ?_
    refine i_iload_n rfl rfl ?_
    refine i_iald rfl rfl (by first | omega | assumption) (by first | omega | assumption) (by decide) ?_
    -- at 179
    rw [show (u : Int).toNat = u by omega]
    show irun none zp_126 179 _ (iI (M1 59 u) :: _) _ _ 0 0 _
    rw [q1]
    refine i_aload_n rfl rfl ?_
    refine i_getr rfl rfl rfl rfl (by decide) rfl ?_
    refine i_iload_n rfl rfl ?_
    refine i_iald rfl rfl (by first | omega | assumption) (by first | omega | assumption) (by decide) ?_
    -- at 185
    rw [show (v : Int).toNat = v by omega]
    show irun none zp_126 185 _ (iI (M1 59 v) :: _) _ _ 0 0 _
    rw [q2]
    by_cases e : q u < q v
    · rw [if_pos e] at ho
      refine i_icmp_ge_f rfl (by first | omega | assumption) ?_
      refine i_aload_n rfl rfl ?_
      refine i_getr rfl rfl rfl rfl (by decide) rfl ?_
      refine i_iload_n rfl rfl ?_
      refine i_iald rfl rfl (by first | omega | assumption) (by first | omega | assumption) (by decide) ?_
      -- at 194
      rw [show (u : Int).toNat = u by omega]
      show irun none zp_126 194 _ (iI (M1 59 u) :: _) _ _ 0 0 _
      rw [q1]
      refine i_goto rfl ?_
      refine i_iast rfl rfl (by first | omega | assumption) (by first | omega | assumption) ?_
      -- at 204
      rw [show (u : Int).toNat = u by omega]
      exact ho
    · rw [if_neg e] at ho
      refine i_icmp_ge_t rfl (by first | omega | assumption) ?_
      refine i_aload_n rfl rfl ?_
      refine i_getr rfl rfl rfl rfl (by decide) rfl ?_
      refine i_iload_n rfl rfl ?_
      refine i_iald rfl rfl (by first | omega | assumption) (by first | omega | assumption) (by decide) ?_
      -- at 203
      rw [show (v : Int).toNat = v by omega]
      show irun none zp_126 203 _ (iI (M1 59 v) :: _) _ _ 0 0 _
      rw [q2]
      refine i_iast rfl rfl (by first | omega | assumption) (by first | omega | assumption) ?_
      -- at 204
      rw [show (u : Int).toNat = u by omega]
      exact ho
  · show va_up (va_up (M1 58) u _) v 0 k = va_up (va_up w u _) v 0 k
    by_cases e1 : k = v
    · rw [e1, up_s, up_s]
    · rw [up_n e1, up_n e1]
      by_cases e2 : k = u
      · rw [e2, up_s, up_s]
      · rw [up_n e2, up_n e2, k2 58 (by decide)]
        exact (h k hk).2.2.1
  · show va_up (M1 59) u _ k = va_up q u _ k
    by_cases e2 : k = u
    · rw [e2, up_s, up_s]
    · rw [up_n e2, up_n e2, k2 59 (by decide)]
      exact (h k hk).2.2.2
set_option maxRecDepth 100000 in
theorem d_lengths {b : Bool} {M : iM} {c : Nat} {W : Nat → Int} (hc : M 40 26 = (c : Int)) (h1 : 1 ≤ c) (h127 : c ≤ 127) (hW : ∀ k, k < c → M 54 k = W k ∧ 1 ≤ W k) (ht : sm W c ≤ 96) : ∃ M', irun none zp_126 0 (i_ent [iP 40] 5) [] (SH b) M 0 0 (none, SH b, M') ∧ Fr [55, 56, 58, 59] M M' ∧ ∀ k, k < c → M' 56 k = (hs c W (c - 1)).2.1 k := by
  have hW1 : ∀ k, k < c → 1 ≤ W k := fun k hk => (hW k hk).2
  have outer : ∀ (d r : Nat) (M1 : iM) (x y z : Option iV) (t l w q : Nat → Int), r + d + 1 = c → Fr [55, 56, 58, 59] M M1 → RM M1 c t l w q → RS c (hs c W r).1 (hs c W r).2.1 (hs c W r).2.2 t l w q → (∀ k, k < c → 0 ≤ w k) → ∃ M', irun none zp_126 63 [some (iP 40), some (iI ((r : Int) + 1)), x, y, z] [] (SH b) M1 0 0 (none, SH b, M') ∧ Fr [55, 56, 58, 59] M M' ∧ ∀ k, k < c → M' 56 k = (hs c W (c - 1)).2.1 k := by
    intro d
    induction d with
    | zero =>
      intro r M1 x y z t l w q hr f1 m1 rs w0
      have hc1 : M1 40 26 = (c : Int) := by rw [f1 40 (by decide)]; exact hc
      refine ⟨M1, ?_, f1, fun k hk => by rw [show c - 1 = r by omega, (m1 k hk).2.1]; exact rs.1 k hk⟩
      refine i_iload_n rfl rfl ?_
      refine i_aload_n rfl rfl ?_
      refine i_getf rfl rfl rfl rfl (by decide) ?_
      refine i_icmp_ge_t rfl (by first | omega | assumption) ?_
      -- at 210
      exact i_vreturn rfl rfl
    | succ d ih =>
      intro r M1 x y z t l w q hr f1 m1 rs w0
      have hc1 : M1 40 26 = (c : Int) := by rw [f1 40 (by decide)]; exact hc
      obtain ⟨g1, g2⟩ := hs_ok (tot := sm W c) (by omega) hW1 rfl r (by omega)
      obtain ⟨xx, yy, p, g, ex, ey, hx, hy, hxy, tx, ty, hpg, _, _, es⟩ := h_pg (c := c) (s := hs c W r) (by omega)
      have es : hs c W (r + 1) = (jT c (hs c W r).1 p g, jL c (hs c W r).1 (hs c W r).2.1 p g, jW (hs c W r).2.2 p g) := es
      have bd := hs_bd (tot := sm W c) (by omega) hW1 rfl r (by omega)
      obtain ⟨u, v, a1, a2, hu, hv, huv, wu, wv, qu, qv⟩ := RS_find rs (by omega) ex ey
      have bw : ∀ k, k < c → -10000 ≤ w k ∧ w k ≤ 10000 := by
        intro k hk
        have := w0 k hk
        by_cases e : 0 < w k
        · obtain ⟨_, z, z1, _, _, z4, _⟩ := rs.2.2 k hk e
          have := bd z z1
          omega
        · omega
      obtain ⟨M2, j1, j2, j3⟩ := d_merge (b := b) (r := (r : Int) + 1) (z := z) hc1 h127 m1 hu hv (fun k hk => by have := bd k hk; have := rs.1 k hk; omega) bw
      have rs2 := RS_step rs hu hv huv wu wv qu qv hx hy tx ty hpg
      obtain ⟨M', k1, k2⟩ := ih (r + 1) M2 (some (iI (u : Int))) (some (iI (v : Int))) (some (iI (c : Int))) _ _ _ _ (by omega) (Fr_t f1 j2 (by decide)) j3 (by rw [es]; exact rs2) (fun k hk => by
        show 0 ≤ va_up (va_up w u _) v 0 k
        by_cases e1 : k = v
        · rw [e1, up_s]; omega
        · rw [up_n e1]
          by_cases e2 : k = u
          · rw [e2, up_s]; omega
          · rw [up_n e2]; exact w0 k hk)
      refine ⟨M', ?_, k2⟩
      have l1 := d_light (b := b) (e := -1) hc1 h127 (w := w) (q := q) (fun k hk => ⟨(m1 k hk).2.2.1, (m1 k hk).2.2.2⟩)
      have l2 := d_light (b := b) (e := (u : Int)) hc1 h127 (w := w) (q := q) (fun k hk => ⟨(m1 k hk).2.2.1, (m1 k hk).2.2.2⟩)
      rw [a1] at l1
      rw [a2] at l2
      rw [show ((r + 1 : Nat) : Int) + 1 = (r : Int) + 1 + 1 by omega] at k1
      refine i_iload_n rfl rfl ?_
      refine i_aload_n rfl rfl ?_
      refine i_getf rfl rfl rfl rfl (by decide) ?_
      refine i_icmp_ge_f rfl (by first | omega | assumption) ?_
      refine i_aload_n rfl rfl ?_
      refine i_iconst (n := -1) rfl (by unfold iR; omega) ?_
      -- at 73
      refine i_call (T := (125, zp_125)) rfl rfl (l1) rfl rfl rfl rfl rfl rfl rfl ?_
      try dsimp only
      show irun none zp_126 76 _ (iI ((u : Int)) :: _) _ _ 0 0 _
      refine i_istore_n rfl (Nat.le_of_ble_eq_true rfl) rfl ?_
      refine i_aload_n rfl rfl ?_
      refine i_iload_n rfl rfl ?_
      -- at 79
      refine i_call (T := (125, zp_125)) rfl rfl (l2) rfl rfl rfl rfl rfl rfl rfl ?_
      try dsimp only
      show irun none zp_126 82 _ (iI ((v : Int)) :: _) _ _ 0 0 _
      refine i_istore_n rfl (Nat.le_of_ble_eq_true rfl) rfl ?_
      -- at 83
      refine j1 _ ?_
      refine i_iinc rfl rfl (by unfold iR; omega) (Nat.le_of_ble_eq_true rfl) rfl ?_
      refine i_goto rfl ?_
      -- at 63
      exact k1
  have init : ∀ (d k : Nat) (M1 : iM), k + d = c → Fr [55, 56, 58, 59] M M1 → (∀ j, j < k → M1 55 j = (j : Int) ∧ M1 56 j = (if c = 1 then 1 else 0) ∧ M1 58 j = W j ∧ M1 59 j = (j : Int)) → ∃ M2, (∀ q, irun none zp_126 61 [some (iP 40), some (iI (c : Int)), none, none, none] [] (SH b) M2 0 0 q → irun none zp_126 2 [some (iP 40), some (iI (k : Int)), none, none, none] [] (SH b) M1 0 0 q) ∧ Fr [55, 56, 58, 59] M M2 ∧ ∀ j, j < c → M2 55 j = (j : Int) ∧ M2 56 j = (if c = 1 then 1 else 0) ∧ M2 58 j = W j ∧ M2 59 j = (j : Int) := by
    intro d
    induction d with
    | zero =>
      intro k M1 hk f1 h
      obtain rfl : k = c := by omega
      have hc1 : M1 40 26 = (k : Int) := by rw [f1 40 (by decide)]; exact hc
      refine ⟨M1, fun q hq => ?_, f1, h⟩
      refine i_iload_n rfl rfl ?_
      refine i_aload_n rfl rfl ?_
      refine i_getf rfl rfl rfl rfl (by decide) ?_
      refine i_icmp_ge_t rfl (by first | omega | assumption) ?_
      -- at 61
      exact hq
    | succ d ih =>
      intro k M1 hk f1 h
      have hc1 : M1 40 26 = (c : Int) := by rw [f1 40 (by decide)]; exact hc
      have hw1 : M1 54 k = W k := by rw [f1 54 (by decide)]; exact (hW k (by omega)).1
      obtain ⟨M2, k1, k2⟩ := ih (k + 1) (i_st (i_st (i_st (i_st M1 55 k (k : Int)) 58 k (W k)) 59 k (k : Int)) 56 k (if c = 1 then 1 else 0)) (by omega) (Fr_st (Fr_st (Fr_st (Fr_st f1 (by decide)) (by decide)) (by decide)) (by decide)) (fun j hj => by
        show va_up (M1 55) k _ j = (j : Int) ∧ va_up (M1 56) k _ j = (if c = 1 then 1 else 0) ∧ va_up (M1 58) k _ j = W j ∧ va_up (M1 59) k _ j = (j : Int)
        by_cases e : j = k
        · rw [e, up_s, up_s, up_s, up_s]; exact ⟨rfl, rfl, rfl, rfl⟩
        · rw [up_n e, up_n e, up_n e, up_n e]; exact h j (by omega))
      refine ⟨M2, fun q hq => ?_, k2⟩
      have k1 := k1 q hq
      refine i_iload_n rfl rfl ?_
      refine i_aload_n rfl rfl ?_
      refine i_getf rfl rfl rfl rfl (by decide) ?_
      refine i_icmp_ge_f rfl (by first | omega | assumption) ?_
      refine i_aload_n rfl rfl ?_
      refine i_getr rfl rfl rfl rfl (by decide) rfl ?_
      refine i_iload_n rfl rfl ?_
      refine i_iload_n rfl rfl ?_
      refine i_iast rfl rfl (by first | omega | assumption) (by first | omega | assumption) ?_
      -- at 17
      rw [show (k : Int).toNat = k by omega]
      refine i_aload_n rfl rfl ?_
      refine i_getr rfl rfl rfl rfl (by decide) rfl ?_
      refine i_iload_n rfl rfl ?_
      refine i_aload_n rfl rfl ?_
      refine i_getr rfl rfl rfl rfl (by decide) rfl ?_
      refine i_iload_n rfl rfl ?_
      refine i_iald rfl rfl (by first | omega | assumption) (by first | omega | assumption) (by decide) ?_
      -- at 28
      rw [show (k : Int).toNat = k by omega]
      show irun none zp_126 28 _ (iI (M1 54 k) :: _) _ _ 0 0 _
      rw [hw1]
      refine i_iast rfl rfl (by first | omega | assumption) (by first | omega | assumption) ?_
      -- at 29
      rw [show (k : Int).toNat = k by omega]
      refine i_aload_n rfl rfl ?_
      refine i_getr rfl rfl rfl rfl (by decide) rfl ?_
      refine i_iload_n rfl rfl ?_
      refine i_iload_n rfl rfl ?_
      refine i_iast rfl rfl (by first | omega | assumption) (by first | omega | assumption) ?_
      -- at 36
      rw [show (k : Int).toNat = k by omega]
      refine i_aload_n rfl rfl ?_
      refine i_getr rfl rfl rfl rfl (by decide) rfl ?_
      refine i_iload_n rfl rfl ?_
      refine i_aload_n rfl rfl ?_
      refine i_getf rfl rfl rfl rfl (by decide) ?_
      -- at 45
      show irun none zp_126 45 _ (iI (M1 40 26) :: _) _ _ 0 0 _
      rw [hc1]
      by_cases e : c = 1
      · rw [if_pos e] at k1
        refine i_iconst (n := 1) rfl (by unfold iR; omega) ?_
        refine i_icmp_ne_f rfl (by first | omega | assumption) ?_
        refine i_iconst (n := 1) rfl (by unfold iR; omega) ?_
        refine i_goto rfl ?_
        refine i_iast rfl rfl (by first | omega | assumption) (by first | omega | assumption) ?_
        refine i_iinc rfl rfl (by unfold iR; omega) (Nat.le_of_ble_eq_true rfl) rfl ?_
        refine i_goto rfl ?_
        -- at 2
        rw [show (k : Int).toNat = k by omega]
        exact k1
      · rw [if_neg e] at k1
        refine i_iconst (n := 1) rfl (by unfold iR; omega) ?_
        refine i_icmp_ne_t rfl (by first | omega | assumption) ?_
        refine i_iconst (n := 0) rfl (by unfold iR; omega) ?_
        refine i_iast rfl rfl (by first | omega | assumption) (by first | omega | assumption) ?_
        refine i_iinc rfl rfl (by unfold iR; omega) (Nat.le_of_ble_eq_true rfl) rfl ?_
        refine i_goto rfl ?_
        -- at 2
        rw [show (k : Int).toNat = k by omega]
        exact k1
  obtain ⟨M2, k1, k2, k3⟩ := init c 0 M (by omega) (Fr_r _ _) (fun j hj => by omega)
  obtain ⟨M', o1, o2⟩ := outer (c - 1) 0 M2 none none none (fun j => (j : Int)) (fun j => if c = 1 then 1 else 0) W (fun j => (j : Int)) (by omega) k2 (fun k hk => k3 k hk) ⟨fun k hk => rfl, fun k hk => ⟨k, hk, rfl, by have := hW1 k hk; omega, rfl⟩, fun k hk _ => ⟨rfl, k, hk, rfl, rfl, rfl, rfl⟩⟩ (fun k hk => by have := hW1 k hk; omega)
  refine ⟨M', ?_, o2⟩
  refine i_iconst (n := 0) rfl (by unfold iR; omega) ?_
  refine i_istore_n rfl (Nat.le_of_ble_eq_true rfl) rfl ?_
  -- at 2
  refine k1 _ ?_
  refine i_iconst (n := 1) rfl (by unfold iR; omega) ?_
  refine i_istore_n rfl (Nat.le_of_ble_eq_true rfl) rfl ?_
  -- at 63
  exact o1
