set_option maxRecDepth 100000 in
theorem d_plan {b : Bool} {M0 M : iM} {p c a n : Nat} (h : CP M0 p c a n) (r : RT M0 M p c a n) :
    (okC M0 p → ∃ M' x y, (∀ q, irun none zp_152 427 [some (iP 40), some (iI (tN M0)), some (iI (sE M0 : Int)), some (iI (fI M0 p)), some (iI x), some (iI y), some (iI (mE M0 p : Int)), some (iI (qI M0 p))] [] (SH b) M' 0 0 q → irun none zp_152 24 [some (iP 40), none, none, none, none, none, none, none] [] (SH b) M 0 0 q) ∧ Fr FM M M' ∧ GM M M' ∧ Qd M0 M' p) ∧
    (¬ okC M0 p → ∃ M', irun none zp_152 24 [some (iP 40), none, none, none, none, none, none, none] [] (SH b) M 0 0 (some (-4), SH b, M') ∧ Fr FM M M' ∧ GM M M') := by
  have ea : aN M0 = a := by unfold aN; rw [h.ha]; rfl
  have en : (M0 5 7).toNat = n := by rw [h.hn]; rfl
  have ec : (M0 p 1).toNat = c := by rw [h.hc]; rfl
  have ek : kK M0 p = kpN (M0 10) (M0 (p + 1)) c := by unfold kK; rw [ec]
  have h10 := h.h10
  have ha4 := h.ha4
  have kn := kp_n (G := M0 10) (W := M0 (p + 1)) c (fun j hj => h.hG j (by omega))
  rw [← ek] at kn
  have e0 := r.r0
  have e13 := r.r13
  have e15 := r.r15
  have start : ∀ (t : Bool) (q : Option Int × List zS × iM), irun none zp_152 42 [some (iP 40), none, none, none, none, none, none, none] [iI 10, iI (pN M0 p : Int)] (SH b) M 0 0 q → irun none zp_152 24 [some (iP 40), none, none, none, none, none, none, none] [] (SH b) M 0 0 q := by
    intro t q hq
    have kb := kK_b h
    refine i_aload_n rfl rfl ?_
    refine i_getr rfl rfl rfl rfl (by decide) rfl ?_
    refine i_iconst (n := 0) rfl (by unfold iR; omega) ?_
    refine i_iald rfl rfl (by first | omega | assumption) (by first | omega | assumption) (by decide) ?_
    -- at 30
    show irun none zp_152 30 _ (iI (M 42 0) :: _) _ _ 0 0 _
    rw [e0]
    refine i_aload_n rfl rfl ?_
    refine i_getf rfl rfl rfl rfl (by decide) ?_
    -- at 34
    rw [e15]
    refine i_isub rfl (by unfold iR; omega) ?_
    refine i_aload_n rfl rfl ?_
    refine i_getf rfl rfl rfl rfl (by decide) ?_
    -- at 39
    rw [e13]
    refine i_iadd rfl (by unfold iR; omega) ?_
    refine i_bipush (n := 10) rfl (by unfold iR; omega) (by decide) ?_
    -- at 42
    rw [show (c : Int) - sm (M0 10) c + (a : Int) = (pN M0 p : Int) by unfold pN; rw [ea]; omega]
    exact hq
  by_cases full : pN M0 p ≤ 10
  · obtain ⟨M1, a1, a2, a3, a4⟩ := d_planA (b := b) h r
    have r1 := RT_m r a2 a3
    have fI0 : fI M0 p = -1 ∨ 0 ≤ fI M0 p := by
      by_cases q : fI M0 p = -1
      · exact Or.inl q
      · by_cases z : 0 < a
        · have := fI_b h z q; omega
        · right; unfold fI; rw [if_pos (by omega)]; omega
    have toA : ∀ q, irun none zp_152 116 [some (iP 40), some (iI (tN M0)), some (iI (sE M0 : Int)), some (iI (fI M0 p)), none, none, none, none] [] (SH b) M1 0 0 q → irun none zp_152 24 [some (iP 40), none, none, none, none, none, none, none] [] (SH b) M 0 0 q := by
      intro q hq
      refine start true q ?_
      refine i_icmp_le_t rfl (by first | omega | assumption) ?_
      -- at 48
      exact a1 q hq
    by_cases f1 : fI M0 p = -1
    · refine ⟨fun z => absurd f1 z.1.2.1, fun _ => ⟨M1, toA _ ?_, a2, a3⟩⟩
      refine i_iload_n rfl rfl ?_
      refine i_if_ge_f rfl (by first | omega | assumption) ?_
      refine i_bipush (n := -4) rfl (by unfold iR; omega) (by decide) ?_
      -- at 122
      exact i_ireturn rfl rfl
    · obtain ⟨M2, y0, b1, b2, b3, b4⟩ := d_planB (b := b) (x1 := tN M0) (x2 := (sE M0 : Int)) (x3 := fI M0 p) h r1
      have f2 : Fr FM M M2 := Fr_t a2 b2 (by decide)
      have g2 : GM M M2 := fun k k1 k2 k3 k4 => by rw [b2 40 (by decide)]; exact a3 k k1 k2 k3 k4
      have r2 := RT_m r f2 g2
      have toB : ∀ q, irun none zp_152 235 [some (iP 40), some (iI (tN M0)), some (iI (sE M0 : Int)), some (iI (fI M0 p)), some (iI (c : Int)), y0, none, none] [] (SH b) M2 0 0 q → irun none zp_152 24 [some (iP 40), none, none, none, none, none, none, none] [] (SH b) M 0 0 q := by
        intro q hq
        refine toA q ?_
        refine i_iload_n rfl rfl ?_
        refine i_if_ge_t rfl (by first | omega | assumption) ?_
        -- at 123
        exact b1 q hq
      obtain ⟨c1, c2⟩ := d_planC (b := b) (y0 := y0) h r2 f1 full b3 b4
      by_cases hv : ∀ i, i < a → vr (M0 32) (M0 8) i ≤ 255
      · obtain ⟨M3, y, z, d1, d2, d3, d4⟩ := c1 hv
        have f3 : Fr FM M M3 := Fr_t f2 d2 (by decide)
        have g3 : GM M M3 := fun k k1 k2 k3 k4 => by rw [d2 40 (by decide)]; exact g2 k k1 k2 k3 k4
        have r3 := RT_m r f3 g3
        have qd : Qd M0 M3 p := ⟨d3, by rw [ea]; exact d4, by
          rw [ea, en, d2 50 (by decide), b2 50 (by decide)]
          exact a4⟩
        by_cases p0 : pN M0 p = 0
        · have me : mE M0 p = 0 := by unfold mE; rw [if_pos p0]
          have q0 : qI M0 p = 0 := by unfold qI; rw [if_pos p0]
          have ok : okC M0 p := ⟨⟨full, f1, by rw [ea]; exact hv⟩, by omega⟩
          refine ⟨fun _ => ⟨M3, sm (M0 9) a, (pN M0 p : Int), fun q hq => toB q (d1 q ?_), f3, g3, qd⟩, fun z => absurd ok z⟩
          rw [me, q0] at hq
          refine i_aload_n rfl rfl ?_
          refine i_getr rfl rfl rfl rfl (by decide) rfl ?_
          refine i_iconst (n := 0) rfl (by unfold iR; omega) ?_
          refine i_iald rfl rfl (by first | omega | assumption) (by first | omega | assumption) (by decide) ?_
          -- at 370
          show irun none zp_152 370 _ (iI (M3 43 0) :: _) _ _ 0 0 _
          rw [d3]
          refine i_istore rfl (Nat.le_of_ble_eq_true rfl) rfl ?_
          refine i_iload rfl rfl ?_
          refine i_if_ne_f rfl (by first | omega | assumption) ?_
          refine i_iconst (n := 0) rfl (by unfold iR; omega) ?_
          refine i_goto rfl ?_
          refine i_istore rfl (Nat.le_of_ble_eq_true rfl) rfl ?_
          refine i_iload rfl rfl ?_
          refine i_if_le_t rfl (by first | omega | assumption) ?_
          refine i_iconst (n := 0) rfl (by unfold iR; omega) ?_
          refine i_istore rfl (Nat.le_of_ble_eq_true rfl) rfl ?_
          refine i_iload rfl rfl ?_
          refine i_if_ge_t rfl (by first | omega | assumption) ?_
          -- at 427
          exact hq
        · have me : mE M0 p = (1 + 7 * pN M0 p + 10) / 11 := by unfold mE; rw [if_neg p0]
          have rm := d_rm (b := b) (m := (mE M0 p : Int)) (x := fI M0 p) (y := fI M0 p + (sE M0 : Int)) h r3 (by omega)
          have eq : fpl (fun s => oM M0 p c s ∨ (fI M0 p ≤ s ∧ s < fI M0 p + (sE M0 : Int))) (mE M0 p : Int) 46 2 0 = qI M0 p := by
            unfold qI
            rw [if_neg p0, ec]
          have hqb := fpl_b (U := fun s => oM M0 p c s ∨ (fI M0 p ≤ s ∧ s < fI M0 p + (sE M0 : Int))) (n := (mE M0 p : Int)) (by omega) 46 2 0 (by omega) (by omega)
          rw [eq] at rm hqb
          have sb : (sE M0 : Int) ≤ 1000 ∧ fI M0 p ≤ 1000 := by
            by_cases z : 0 < a
            · have := fI_b h z f1; omega
            · have : fI M0 p = 0 := by unfold fI; rw [if_pos (by omega)]
              have : sE M0 = 0 := by unfold sE; rw [if_pos (by omega)]
              omega
          have toD : ∀ q, irun none zp_152 419 [some (iP 40), some (iI (tN M0)), some (iI (sE M0 : Int)), some (iI (fI M0 p)), some (iI (sm (M0 9) a)), some (iI (pN M0 p : Int)), some (iI (mE M0 p : Int)), some (iI (qI M0 p))] [] (SH b) M3 0 0 q → irun none zp_152 24 [some (iP 40), none, none, none, none, none, none, none] [] (SH b) M 0 0 q := by
            intro q hq
            refine toB q (d1 q ?_)
            refine i_aload_n rfl rfl ?_
            refine i_getr rfl rfl rfl rfl (by decide) rfl ?_
            refine i_iconst (n := 0) rfl (by unfold iR; omega) ?_
            refine i_iald rfl rfl (by first | omega | assumption) (by first | omega | assumption) (by decide) ?_
            -- at 370
            show irun none zp_152 370 _ (iI (M3 43 0) :: _) _ _ 0 0 _
            rw [d3]
            refine i_istore rfl (Nat.le_of_ble_eq_true rfl) rfl ?_
            refine i_iload rfl rfl ?_
            refine i_if_ne_t rfl (by first | omega | assumption) ?_
            refine i_iconst (n := 1) rfl (by unfold iR; omega) ?_
            refine i_bipush (n := 7) rfl (by unfold iR; omega) (by decide) ?_
            refine i_iload rfl rfl ?_
            refine i_imul rfl (by unfold iR; omega) ?_
            refine i_iadd rfl (by unfold iR; omega) ?_
            refine i_bipush (n := 11) rfl (by unfold iR; omega) (by decide) ?_
            refine i_iadd rfl (by unfold iR; omega) ?_
            refine i_iconst (n := 1) rfl (by unfold iR; omega) ?_
            refine i_isub rfl (by unfold iR; omega) ?_
            refine i_bipush (n := 11) rfl (by unfold iR; omega) (by decide) ?_
            refine i_idiv rfl (by first | omega | assumption) (by first | omega | assumption) ?_
            -- at 396
            rw [show ((1 : Int) + 7 * (pN M0 p : Int) + 11 - 1) / 11 = (mE M0 p : Int) by rw [me]; omega]
            refine i_istore rfl (Nat.le_of_ble_eq_true rfl) rfl ?_
            refine i_iload rfl rfl ?_
            refine i_if_le_f rfl (by first | omega | assumption) ?_
            refine i_aload_n rfl rfl ?_
            refine i_iload rfl rfl ?_
            refine i_iload_n rfl rfl ?_
            refine i_iload_n rfl rfl ?_
            refine i_iload_n rfl rfl ?_
            refine i_iadd rfl (by unfold iR; omega) ?_
            -- at 410
            refine i_call (T := (150, zp_150)) rfl rfl (rm) rfl rfl rfl rfl rfl rfl rfl ?_
            try dsimp only
            show irun none zp_152 413 _ (iI (qI M0 p) :: _) _ _ 0 0 _
            refine i_goto rfl ?_
            refine i_istore rfl (Nat.le_of_ble_eq_true rfl) rfl ?_
            -- at 419
            exact hq
          by_cases q1 : qI M0 p = -1
          · refine ⟨fun z => absurd q1 z.2, fun _ => ⟨M3, toD _ ?_, f3, g3⟩⟩
            refine i_iload rfl rfl ?_
            refine i_if_ge_f rfl (by first | omega | assumption) ?_
            refine i_bipush (n := -4) rfl (by unfold iR; omega) (by decide) ?_
            -- at 426
            exact i_ireturn rfl rfl
          · have ok : okC M0 p := ⟨⟨full, f1, by rw [ea]; exact hv⟩, q1⟩
            refine ⟨fun _ => ⟨M3, sm (M0 9) a, (pN M0 p : Int), fun q hq => toD q ?_, f3, g3, qd⟩, fun z => absurd ok z⟩
            refine i_iload rfl rfl ?_
            refine i_if_ge_t rfl (by first | omega | assumption) ?_
            -- at 427
            exact hq
      · obtain ⟨M3, d1, d2⟩ := c2 hv
        refine ⟨fun z => absurd (by have := z.1.2.2; rw [ea] at this; exact this) hv, fun _ => ⟨M3, toB _ d1, Fr_t f2 d2 (by decide), fun k k1 k2 k3 k4 => by rw [d2 40 (by decide)]; exact g2 k k1 k2 k3 k4⟩⟩
  · refine ⟨fun z => absurd z.1.1 full, fun _ => ⟨M, start true _ ?_, Fr_r _ _, GM_r M⟩⟩
    refine i_icmp_le_f rfl (by first | omega | assumption) ?_
    refine i_bipush (n := -4) rfl (by unfold iR; omega) (by decide) ?_
    -- at 47
    exact i_ireturn rfl rfl
