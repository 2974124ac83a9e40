theorem BP_b (b : Bool) : BP b (pI b) (pP b) := by
  cases b
  · exact Or.inl ⟨rfl, rfl, rfl⟩
  · exact Or.inr ⟨rfl, rfl, rfl⟩
theorem pI_nb (b : Bool) : pI (!b) = pP b := by cases b <;> rfl
theorem FO_n (b : Bool) : ∀ x, x ∈ [0, 1, 2, 3, 4, 5, 6, 7, 8, 9, 10, 32, 34, 35, 40, 41, 42, 43, 44, 45, 46, 47, 48, 49, 50, 51, 52, 53, 54, 55, 56, 57, 58, 59, 60, 61, 62, pI b, pI b + 1] → x ∉ FO (pP b) := by
  cases b <;> decide
theorem cm_1 (b : Bool) : (∀ x, x ∈ [40, 42, 44, 46, 47, 48, 49] → x ∉ FO (pP b)) ∧ (∀ x, x ∈ [5, 6, 7, 8, 9, 10, 32, 35, 42, 44, 45, 46, 47, 48, 49, 62] → x ∉ FO (pP b)) := by
  cases b <;> decide
theorem cm_2 : (∀ x, x ∈ [40, 42, 44, 46, 47, 48, 49] → x ∉ [0, 1, 2, 4, 5, 10, 32, 34] ∧ x ∉ [1, 2, 4, 34]) ∧ (∀ x, x ∈ [5, 6, 7, 8, 9, 10, 32, 35, 42, 44, 45, 46, 47, 48, 49, 62] → x ∉ FM) ∧ (∀ x, x ∈ [5, 6, 7, 8, 9, 10, 32, 35, 42, 44, 45, 46, 47, 48, 49, 62] → (x = 42 ∨ x = 44 ∨ x = 49) ∨ (x ∉ [1, 2, 4, 34] ∧ x ∉ [40, 41, 42, 43, 44, 49, 50, 51, 53, 54, 55, 56, 57, 58, 59])) ∧ (∀ x, x ∈ [5, 10] → x ∈ [0, 1, 2, 4, 5, 10, 32, 34]) ∧ (∀ x, x ∈ [0, 32] → x ∈ [0, 1, 2, 4, 5, 10, 32, 34]) ∧ (∀ x, x ∈ [1, 2, 4, 34] → x ∈ [0, 1, 2, 4, 5, 10, 32, 34]) := by
  refine ⟨by decide, by decide, by decide, by decide, by decide, by decide⟩
theorem cm_3 (b : Bool) : ∀ x, x ∈ [pI b, pI b + 1, pP b, pP b + 1] → x ∉ [1, 2, 4, 34] ∧ x ∉ [40, 41, 42, 43, 44, 49, 50, 51, 53, 54, 55, 56, 57, 58, 59] ∧ x ∉ FM ∧ x ∉ [5, 10] ∧ x ∉ [0, 32] ∧ x ≠ 0 ∧ x ≠ 32 ∧ x ≠ 5 ∧ x ≠ 10 := by
  cases b <;> decide
set_option maxRecDepth 100000 in
theorem o_commit {w : Int} {b : Bool} {M : iM} (h : Inv w b M) (hw0 : 0 ≤ w) (hw : w < 700000000) : Op w b M zp_5 zp_152 [] := by
  have hi := h
  obtain ⟨⟨j1, j2, j3⟩, ⟨a1, a2, a3, a4, a5, a6, a7, a8⟩, -, -, -, ⟨⟨e13, e13a⟩, -⟩, ⟨⟨e15, e15a⟩, e15b⟩, -⟩ := hi
  have hs := sm_b (f := M 10) (B := 1) (n := 10) (fun k hk => by have := (e15b k hk).2.1; omega)
  obtain ⟨c, a, n, cp, rt, e58⟩ := Inv_CP h
  have hbp := BP_b b
  have hFO := FO_n b
  have hc1 := cm_1 b
  obtain ⟨hc2, hc3, hc4, hc5, hc6, hc7⟩ := cm_2
  have hpn := cm_3 b
  have eI := pI_nb b
  have e241 : M 2 = M 41 := funext j2
  have hf2 : by8 (M 2) 720 := by rw [e241]; exact j1
  have ea : aN M = a := by unfold aN; rw [cp.ha]; rfl
  have hO : Oo (M 1) w := by
    refine ⟨?_, a7, a8⟩
    rw [a6]
    split <;> omega
  have rl : Rl (M 1) (M 40) := ⟨a1, a2, a3, a4, a5, a6⟩
  generalize eo : pP b = o at *
  generalize ep : pI b = p at *
  have hw1 : irun none zp_69 0 (i_ent [iP 5] 1) [] (SH b) M 0 0 (some (M 5 6 + M 5 8), SH b, M) := by
    refine i_aload_n rfl rfl ?_
    refine i_getf rfl rfl rfl rfl (by decide) ?_
    refine i_aload_n rfl rfl ?_
    refine i_getf rfl rfl rfl rfl (by decide) ?_
    refine i_iadd rfl (by unfold iR; omega) ?_
    -- at 9
    exact i_ireturn rfl rfl
  rcases a1 with a1 | a1
  · have a2 : M 40 1 = 0 := a2.trans a1
    by_cases wz : M 5 6 + M 5 8 = 0
    · refine ⟨0, b, M, M, ?_, ?_, Inv_w h (by omega)⟩
      · refine i_aload_n rfl rfl ?_
        refine i_getr rfl rfl rfl rfl (by decide) rfl ?_
        -- at 4
        refine i_call (T := (34, zp_34)) rfl rfl (c_isStopped (Or.inl a1)) rfl rfl rfl rfl rfl rfl rfl ?_
        try dsimp only
        show irun none zp_5 7 _ (iI (M 1 4) :: _) _ _ 0 0 _
        refine i_if_eq_t rfl (by first | omega | assumption) ?_
        refine i_aload_n rfl rfl ?_
        refine i_getr rfl rfl rfl rfl (by decide) rfl ?_
        -- at 17
        refine i_call (T := (69, zp_69)) rfl rfl (hw1) rfl rfl rfl rfl rfl rfl rfl ?_
        try dsimp only
        show irun none zp_5 20 _ (iI (M 5 6 + M 5 8) :: _) _ _ 0 0 _
        refine i_if_ne_f rfl (by first | omega | assumption) ?_
        refine i_iconst (n := 0) rfl (by unfold iR; omega) ?_
        -- at 24
        exact i_ireturn rfl rfl
      · refine i_aload_n rfl rfl ?_
        refine i_getf rfl rfl rfl rfl (by decide) ?_
        refine i_if_eq_t rfl (by first | omega | assumption) ?_
        refine i_aload_n rfl rfl ?_
        refine i_getf rfl rfl rfl rfl (by decide) ?_
        -- at 14
        rw [e13]
        refine i_aload_n rfl rfl ?_
        refine i_getf rfl rfl rfl rfl (by decide) ?_
        -- at 18
        rw [e15]
        refine i_iadd rfl (by unfold iR; omega) ?_
        refine i_if_ne_f rfl (by first | omega | assumption) ?_
        refine i_iconst (n := 0) rfl (by unfold iR; omega) ?_
        -- at 23
        exact i_ireturn rfl rfl
    · -- the plan
      obtain ⟨M1, p1, p2, p3⟩ := c_planCommit (b := b) hbp cp
      have ht := cp.ht
      have pre : ∀ q, irun none zp_5 53 [some (iP 0), some (iI (tN M)), none] [iI (bz (okC M p))] (SH b) M1 0 0 q → irun none zp_5 0 (i_ent [iP 0] 3) [] (SH b) M 0 0 q := by
        intro q hq
        have tt : ∀ q', irun none zp_5 47 [some (iP 0), none, none] [iI (tN M)] (SH b) M 0 0 q' → irun none zp_5 25 [some (iP 0), none, none] [] (SH b) M 0 0 q' := by
          intro q' hq'
          unfold tN at hq'
          by_cases e : M 0 8 < 127
          · rw [if_pos e] at hq'
            refine i_aload_n rfl rfl ?_
            refine i_getf rfl rfl rfl rfl (by decide) ?_
            refine i_bipush (n := 127) rfl (by unfold iR; omega) (by decide) ?_
            refine i_icmp_ge_f rfl (by first | omega | assumption) ?_
            refine i_aload_n rfl rfl ?_
            refine i_getf rfl rfl rfl rfl (by decide) ?_
            refine i_iconst (n := 1) rfl (by unfold iR; omega) ?_
            refine i_iadd rfl (by unfold iR; omega) ?_
            refine i_goto rfl ?_
            -- at 47
            exact hq'
          · rw [if_neg e] at hq'
            refine i_aload_n rfl rfl ?_
            refine i_getf rfl rfl rfl rfl (by decide) ?_
            refine i_bipush (n := 127) rfl (by unfold iR; omega) (by decide) ?_
            refine i_icmp_ge_t rfl (by first | omega | assumption) ?_
            refine i_aload_n rfl rfl ?_
            refine i_getf rfl rfl rfl rfl (by decide) ?_
            -- at 47
            exact hq'
        refine i_aload_n rfl rfl ?_
        refine i_getr rfl rfl rfl rfl (by decide) rfl ?_
        -- at 4
        refine i_call (T := (34, zp_34)) rfl rfl (c_isStopped (Or.inl a1)) rfl rfl rfl rfl rfl rfl rfl ?_
        try dsimp only
        show irun none zp_5 7 _ (iI (M 1 4) :: _) _ _ 0 0 _
        refine i_if_eq_t rfl (by first | omega | assumption) ?_
        refine i_aload_n rfl rfl ?_
        refine i_getr rfl rfl rfl rfl (by decide) rfl ?_
        -- at 17
        refine i_call (T := (69, zp_69)) rfl rfl (hw1) rfl rfl rfl rfl rfl rfl rfl ?_
        try dsimp only
        show irun none zp_5 20 _ (iI (M 5 6 + M 5 8) :: _) _ _ 0 0 _
        refine i_if_ne_t rfl (by first | omega | assumption) ?_
        -- at 25
        refine tt q ?_
        refine i_istore_n rfl (Nat.le_of_ble_eq_true rfl) rfl ?_
        refine i_aload_n rfl rfl ?_
        refine i_iload_n rfl rfl ?_
        -- at 50
        refine i_call (T := (22, zp_22)) rfl rfl (p1) rfl rfl rfl rfl rfl rfl rfl ?_
        try dsimp only
        exact hq
      have preM : ∀ (b' : Bool) (X : iM) (q : Option Int × List zS × iM), X 40 = M 40 → irun none zp_152 24 [some (iP 40), none, none, none, none, none, none, none] [] (SH b') X 0 0 q → irun none zp_152 0 (i_ent [iP 40] 8) [] (SH b') X 0 0 q := by
        intro b' X q hX hq
        have x1 : X 40 1 = 0 := by rw [hX]; exact a2
        have x13 : X 40 13 = M 5 6 := by rw [hX]; exact e13
        have x15 : X 40 15 = M 5 8 := by rw [hX]; exact e15
        refine i_aload_n rfl rfl ?_
        refine i_getf rfl rfl rfl rfl (by decide) ?_
        refine i_if_eq_t rfl (by first | omega | assumption) ?_
        refine i_aload_n rfl rfl ?_
        refine i_getf rfl rfl rfl rfl (by decide) ?_
        -- at 14
        rw [x13]
        refine i_aload_n rfl rfl ?_
        refine i_getf rfl rfl rfl rfl (by decide) ?_
        -- at 18
        rw [x15]
        refine i_iadd rfl (by unfold iR; omega) ?_
        refine i_if_ne_t rfl (by first | omega | assumption) ?_
        -- at 24
        exact hq
      by_cases ok : okC M p
      · rw [bz_t ok] at pre
        have pd := p3 ok
        obtain ⟨⟨h10, hf1, hv⟩, hq1⟩ := ok
        have fb := fI_0 cp hf1
        have qb := qI_b cp h10 hq1
        have zb := zB_b cp
        have hb := blk_b cp
        have hm2 := cp.h2
        obtain ⟨f1, ef1⟩ := Int.eq_ofNat_of_zero_le fb.1
        obtain ⟨f2, ef2⟩ := Int.eq_ofNat_of_zero_le qb.1
        obtain ⟨x0, ex0⟩ := Int.eq_ofNat_of_zero_le hm2.1
        have hvA := hv
        rw [ea] at hv
        have hPK := pL_PK cp hf1 hv a (Nat.le_refl _)
        have ePn : (pL M p a).1 = pN M p := by unfold pL pN; rw [plN_n, ea]
        have hEn : ∀ k, k < pN M p → En (fun u => (pL M p a).2 (7 * k + u)) := fun k hk => (hPK.2 k (by rw [ePn]; exact hk)).1
        have h8 := En_b8 hEn
        have pdw : ∀ j, j < 7 * pN M p → M1 (o + 1) j = (pL M p a).2 j := by have := pd.hw; rw [ea] at this; exact this
        have n96 := CP_n cp
        have sz := chs_b (S := M 7) n96 3
        have es : sE M = if a = 0 then 0 else (zB M + 10) / 11 := by unfold sE; rw [ea]
        have m1e : M1 1 = M 1 := p2 1 (hFO 1 (by simp))
        have m2e : M1 2 = M 2 := p2 2 (hFO 2 (by simp))
        obtain ⟨M2, w1, w2, w3, w4, w5, w6, w7, w8⟩ := c_writeP (b := b) (M := M1) (p := p) (o := o) (a := a) (c := pN M p) (z := zB M) (f1 := f1) (f2 := f2) (x := (x0 + 1) % 256) (n1 := sE M) (n2 := mE M p) (N := w) hbp (by rw [p2 5 (hFO 5 (by simp))]; exact cp.ha) pd.h1 h10 es rfl (fun a0 => by
          obtain ⟨q1, q2, q3, q4, q5, q6⟩ := pd.hb (by omega)
          have es2 : sE M = (zB M + 10) / 11 := by rw [es, if_neg (by omega)]
          refine ⟨by rw [q1, ef1], q2, by omega, by omega, fun j hj => ?_⟩
          have ez : zB M = (chs (M 7) (M 5 7).toNat 4).2 + 3 := rfl
          by_cases j0 : j = 0
          · rw [j0, q3, zb.2.2]
            have := sz.2.1
            have this : (chs (M 7) n 4).1 ≤ 3 := this
            omega
          · by_cases j1 : j = 1
            · rw [j1, q4, cp.hn]; omega
            · by_cases j2 : j = 2
              · rw [j2, q5]; omega
              · have := q6 (j - 3) (by omega)
                rw [show 3 + (j - 3) = j by omega] at this
                rw [this]
                exact ⟨(hb _).1, (hb _).2.1⟩) (fun c0 => by
          have em : mE M p = (1 + 7 * pN M p + 10) / 11 := by unfold mE; rw [if_neg (by omega)]
          refine ⟨by rw [pd.h3, ef2], by omega⟩) (fun j hj => by rw [pdw j hj]; exact h8 j hj) (by rw [pd.h2]; omega) (by omega) (by rw [pd.h3]; omega) (by rw [pd.h4]; omega) (by rw [m1e]; exact hO) (by omega) (by rw [m2e]; exact hf2) (by rw [p2 3 (hFO 3 (by simp))]; exact j3) rfl
        rw [m1e, m2e] at w1 w3 w4 w7 w8
        generalize eV : wr (Dz (M1 30) (zB M)) (Dz (iD (pN M p : Int) (M1 (o + 1))) (1 + 7 * pN M p)) (Dz (hD (((x0 + 1) % 256 : Nat) : Int) (M1 o 3) (M1 o 4)) 5) f1 f2 ((x0 + 1) % 256 % 2) (sE M) (mE M p) (M 2) (M 1) = V at w1 w3 w4 w7 w8
        -- the reference at the end
        have fin : ∀ (b' : Bool) (X : iM), (∀ x, x ∈ [40, 42, 44, 46, 47, 48, 49] → X x = M x) → X 41 = M 41 → _ := fun b' X hX hX41 => d_done (b := b') (M := M) (M1 := M1) (X := X) (p := p) (o := o) (c := c) (a := a) (n := n) (f1 := f1) (f2 := f2) (x := (x0 + 1) % 256) (x0 := x0) (V := V) cp pd ⟨⟨h10, hf1, hvA⟩, hq1⟩ (RT_e rt hX) (by rw [hX 40 (by decide)]; exact rl) (by rw [hX41, e241]) hf2 ef1.symm ef2.symm ex0.symm rfl eV.symm
        have frA : ∀ x, x ∉ FO o → x ∉ [1, 2, 4, 34] → M2 x = M x := fun x x1 x2 => (w2 x x2).trans (p2 x x1)
        have mid : ∀ q, irun none zp_5 71 [some (iP 0), some (iI (tN M)), some (iI (M 1 5))] [iI V.1] (SH b) M2 0 0 q → irun none zp_5 0 (i_ent [iP 0] 3) [] (SH b) M 0 0 q := by
          intro q hq
          refine pre q ?_
          refine i_if_ne_t rfl (by first | omega | assumption) ?_
          refine i_aload_n rfl rfl ?_
          refine i_getr rfl rfl rfl rfl (by decide) rfl ?_
          refine i_getf rfl rfl rfl rfl (by decide) ?_
          -- at 66
          rw [m1e]
          refine i_istore_n rfl (Nat.le_of_ble_eq_true rfl) rfl ?_
          refine i_aload_n rfl rfl ?_
          -- at 68
          refine i_call (T := (27, zp_27)) rfl rfl (w1) rfl rfl rfl rfl rfl rfl rfl ?_
          try dsimp only
          exact hq
        by_cases v1 : V.1 = 1
        · -- all is written
          rw [v1] at mid
          have no := hpn o (by simp)
          have no1 := hpn (o + 1) (by simp)
          have m2o : M2 o = M1 o := w2 o no.1
          have m2o1 : M2 (o + 1) = M1 (o + 1) := w2 (o + 1) no1.1
          have no0 : o ≠ 0 ∧ o + 1 ≠ 0 := ⟨no.2.2.2.2.2.1, no1.2.2.2.2.2.1⟩
          have rem := c_remember (b := !b) (M := i_st M2 0 8 (tN M)) (n := pN M p) (by
            rw [eI]
            show va_up M2 0 _ o 1 = _
            rw [up_n no0.1, m2o]
            exact pd.h1) h10 (fun k hk => by
            rw [eI]
            show 0 ≤ va_up M2 0 _ (o + 1) _ ∧ va_up M2 0 _ (o + 1) _ ≤ 7
            rw [up_n no0.2, m2o1, pdw _ (by omega)]
            exact (hEn k hk).1)
          rw [eI] at rem
          have c32 : (i_st M2 0 8 (tN M)) 32 = M 32 := frA 32 (hFO 32 (by simp)) (by decide)
          have co1 : (i_st M2 0 8 (tN M)) (o + 1) = M1 (o + 1) := by
            show va_up M2 0 _ (o + 1) = _
            rw [up_n no0.2, m2o1]
          rw [c32, co1] at rem
          generalize eY : va_up (i_st M2 0 8 (tN M)) 32 (bsf (M 32) (M1 (o + 1)) (pN M p)) = Y at rem
          have fY : Fr [0, 32] M2 Y := by rw [← eY]; exact Fr_up (Fr_st (Fr_r _ _) (by decide)) (by decide)
          have fg := c_forget (b := !b) (M := Y)
          generalize eZ : va_up (va_up Y 5 (va_up (va_up (va_up (Y 5) 6 0) 7 0) 8 0)) 10 (zz (Y 10)) = Z at fg
          have fZ : Fr [5, 10] Y Z := by rw [← eZ]; exact Fr_up (Fr_up (Fr_r _ _) (by decide)) (by decide)
          have fA : ∀ x, x ∉ FO o → x ∉ [0, 1, 2, 4, 5, 10, 32, 34] → Z x = M x := fun x x1 x2 => by
            rw [fZ x (fun z => x2 (hc5 x z)), fY x (fun z => x2 (hc6 x z))]
            exact frA x x1 (fun z => x2 (hc7 x z))
          obtain ⟨M7, r1, r2, r3, r4, r5, -⟩ := fin (!b) Z (fun x hx => fA x (hc1.1 x hx) (hc2 x hx).1) (fA 41 (hFO 41 (by simp)) (by decide))
          rw [if_pos v1] at r1
          obtain ⟨k1, k2, k3, k4, k5, k6, k7, k8, k9, k10, k11, k12⟩ := r5 v1
          have z1 : Z 1 = V.2.2 := by rw [fZ 1 (by decide), fY 1 (by decide)]; exact w3
          have z2 : Z 2 = V.2.1 := by rw [fZ 2 (by decide), fY 2 (by decide)]; exact w4
          have w8 := w8 v1
          have cls : irun none zp_5 0 (i_ent [iP 0] 3) [] (SH b) M 0 0 (some (2 * ((sE M : Int) + (mE M p : Int) + 1)), SH (!b), Z) := by
            refine mid _ ?_
            refine i_if_ne_t rfl (by first | omega | assumption) ?_
            refine i_aload_n rfl rfl ?_
            refine i_iload_n rfl rfl ?_
            refine i_puti rfl rfl rfl rfl ?_
            refine i_aload_n rfl rfl ?_
            -- at 83
            refine i_call (T := (20, zp_20)) rfl rfl (c_swap) rfl rfl rfl rfl rfl rfl rfl ?_
            try dsimp only
            refine i_aload_n rfl rfl ?_
            -- at 87
            refine i_call (T := (19, zp_19)) rfl rfl (rem) rfl rfl rfl rfl rfl rfl rfl ?_
            try dsimp only
            refine i_aload_n rfl rfl ?_
            refine i_getr rfl rfl rfl rfl (by decide) rfl ?_
            -- at 94
            refine i_call (T := (70, zp_70)) rfl rfl (fg) rfl rfl rfl rfl rfl rfl rfl ?_
            try dsimp only
            refine i_aload_n rfl rfl ?_
            refine i_getr rfl rfl rfl rfl (by decide) rfl ?_
            refine i_getf rfl rfl rfl rfl (by decide) ?_
            -- at 104
            rw [z1]
            refine i_iload_n rfl rfl ?_
            refine i_isub rfl (by unfold iR; omega) ?_
            -- at 106
            rw [show V.2.2 5 - M 1 5 = 2 * ((sE M : Int) + (mE M p : Int) + 1) by omega]
            exact i_ireturn rfl rfl
          have zo : Z o = M1 o := by
            rw [fZ o no.2.2.2.1, fY o no.2.2.2.2.1]
            exact m2o
          have zo1 : Z (o + 1) = M1 (o + 1) := by
            rw [fZ (o + 1) no1.2.2.2.1, fY (o + 1) no1.2.2.2.2.1]
            exact m2o1
          have s7 : ∀ x, x ∉ [40, 41, 42, 43, 44, 49, 50, 51, 53, 54, 55, 56, 57, 58, 59] → M7 x = Z x := r2
          have s7o : M7 o = M1 o := by rw [s7 o no.2.1, zo]
          have s7o1 : M7 (o + 1) = M1 (o + 1) := by rw [s7 (o + 1) no1.2.1, zo1]
          have s32 : M7 32 = bsf (M 32) (M1 (o + 1)) (pN M p) := by
            rw [s7 32 (by decide), fZ 32 (by decide), ← eY]
            rfl
          have s5 : M7 5 = va_up (va_up (va_up (Y 5) 6 0) 7 0) 8 0 := by
            rw [s7 5 (by decide), ← eZ]
            rfl
          have y5 : Y 5 = M 5 := by
            rw [fY 5 (by decide)]
            exact frA 5 (hFO 5 (by simp)) (by decide)
          have s10 : M7 10 = zz (Y 10) := by
            rw [s7 10 (by decide), ← eZ]
            rfl
          have y10 : Y 10 = M 10 := by
            rw [fY 10 (by decide)]
            exact frA 10 (hFO 10 (by simp)) (by decide)
          have zM : ∀ x, x ∉ FO o → x ∉ [0, 1, 2, 4, 5, 10, 32, 34] → x ∉ [40, 41, 42, 43, 44, 49, 50, 51, 53, 54, 55, 56, 57, 58, 59] → M7 x = M x := fun x x1 x2 x3 => (s7 x x3).trans (fA x x1 x2)
          have z40 : Z 40 = M 40 := fA 40 (hFO 40 (by simp)) (by decide)
          have z44 : Z 44 = M 44 := fA 44 (hFO 44 (by simp)) (by decide)
          have m08 : M7 0 8 = tN M := by
            rw [s7 0 (by decide), fZ 0 (by decide), ← eY]
            rfl
          have m07 : M7 0 7 = M 0 7 := by
            rw [s7 0 (by decide), fZ 0 (by decide), ← eY]
            show va_up (M2 0) 8 (tN M) 7 = _
            rw [up_n (by decide), frA 0 (hFO 0 (by simp)) (by decide)]
          have tb := tN_b ht
          have wl : ∀ j, j < pN M p → M1 (o + 1) (7 * j) = (pL M p a).2 (7 * j) ∧ M1 (o + 1) (7 * j + 1) = (pL M p a).2 (7 * j + 1) ∧ 0 ≤ (pL M p a).2 (7 * j) ∧ (pL M p a).2 (7 * j) ≤ 7 := fun j hj => ⟨pdw _ (by omega), pdw _ (by omega), (hEn j hj).1⟩
          have b44 : ∀ k, k < 8 → M 44 k = M 32 k := fun k hk => rt.r44 k hk
          refine ⟨2 * ((sE M : Int) + (mE M p : Int) + 1), !b, Z, M7, cls, preM (!b) Z _ z40 r1, ?_⟩
          obtain ⟨-, -, -, -, i5, -, -, i8⟩ := h
          refine ⟨?_, ?_, ?_, ?_, ?_, ?_, ?_, ?_⟩
          · refine ⟨by rw [r3, ← w4]; exact w5, fun j => by rw [s7 2 (by decide), z2, r3], ?_⟩
            rw [zM 3 (hFO 3 (by simp)) (by decide) (by decide)]
            exact j3
          · obtain ⟨t1, t2, t3, t4, t5, t6⟩ := r4
            have o6 := w6
            rw [w3] at o6
            rw [show I2 (w + 300) M7 ↔ I2 (w + 300) M7 from Iff.rfl]
            unfold I2
            rw [s7 1 (by decide), z1]
            exact ⟨t1, t2, t3, t4, t5, t6, o6.2.1, o6.2.2⟩
          · rw [eI]
            unfold I3
            rw [s7o, s7o1, s32, k9, k2, k3, k4, pd.h1, pd.h2, pd.h3, pd.h4]
            refine ⟨⟨by omega, by omega⟩, rfl, fun k hk => ?_, fun k hk => ?_, fun k hk => ?_, ⟨by omega, by omega, by omega⟩, ⟨rfl, by omega, by omega⟩, ⟨rfl, by omega, by omega⟩, fun k hk => ?_⟩
            · rw [k10 k (by omega), pdw k (by omega)]
            · have := En_c (fun u hu => (pdw (7 * k + u) (by omega)).symm) (hEn k (by omega))
              exact this
            · rw [pdw _ (by omega), pdw _ (by omega), pdw _ (by omega), pdw _ (by omega)]
              exact hPK.1 k (by rw [ePn]; omega)
            · exact bsf_ge (by omega)
          · unfold I4
            rw [m08, k5, s32]
            refine ⟨⟨rfl, tb⟩, fun k hk => ⟨?_, ?_⟩⟩
            · rw [k11 k hk, z44]
              exact (bsf_c (fun q hq => (b44 q hq).symm) wl k hk).symm
            · exact bsf_b (B := 255) cp.hB (fun j hj => by
                obtain ⟨l1, l2, l3, l4⟩ := wl j hj
                rw [l1, l2]
                exact ⟨(hEn j hj).2.1.2, l3, l4⟩) k hk
          · unfold I5
            rw [k1 12 (by decide), z40, s5, zM 45 (hFO 45 (by simp)) (by decide) (by decide), zM 6 (hFO 6 (by simp)) (by decide) (by decide)]
            have e55 : va_up (va_up (va_up (Y 5) 6 0) 7 0) 8 0 5 = M 5 5 := by
              rw [up_n (by decide), up_n (by decide), up_n (by decide), y5]
            rw [e55]
            exact i5
          · unfold I6
            rw [k6, k7, s5]
            refine ⟨⟨rfl, ?_, ?_⟩, ⟨rfl, rfl⟩, fun k hk => ?_, fun k hk => ?_⟩
            · show (0 : Int) ≤ 0; omega
            · show (0 : Int) ≤ 4; omega
            · have hk : (k : Int) < 0 := hk
              omega
            · have hk : (k : Int) < 0 := hk
              omega
          · unfold I7
            rw [k8, s5, s10, k12]
            refine ⟨⟨rfl, ?_⟩, fun k hk => ?_⟩
            · show (0 : Int) = sm (zz (Y 10)) 10
              exact (sm_0 (fun k hk => by show (if k < 10 then _ else _) = _; rw [if_pos hk])).symm
            · have e1 : zz (Y 10) k = 0 := by show (if k < 10 then _ else _) = _; rw [if_pos hk]
              have e2 : zz (Z 49) k = 0 := by show (if k < 10 then _ else _) = _; rw [if_pos hk]
              refine ⟨?_, ?_, fun _ => e1⟩
              · rw [e1, e2]
              · exact Or.inl e1
          · unfold I8
            rw [k1 41 (by decide), z40, m07, zM 62 (hFO 62 (by simp)) (by decide) (by decide), zM 35 (hFO 35 (by simp)) (by decide) (by decide)]
            exact i8
        · -- the machine stops
          have v0 : V.1 = 0 := by rcases w7 with z | z; exact z; exact absurd z v1
          rw [v0] at mid
          obtain ⟨M7, r1, r2, r3, r4, -, r6⟩ := fin b M2 (fun x hx => frA x (hc1.1 x hx) (hc2 x hx).2) (frA 41 (hFO 41 (by simp)) (by decide))
          rw [if_neg v1] at r1
          obtain ⟨k1, k2, k3, k4⟩ := r6 v1
          have z40 : M2 40 = M 40 := frA 40 (hFO 40 (by simp)) (by decide)
          refine ⟨-9, b, M2, M7, mid _ ?_, preM b M2 _ z40 r1, ?_⟩
          · refine i_if_ne_f rfl (by first | omega | assumption) ?_
            refine i_bipush (n := -9) rfl (by unfold iR; omega) (by decide) ?_
            -- at 76
            exact i_ireturn rfl rfl
          · have zM : ∀ x, x ∉ FO o → x ∉ [1, 2, 4, 34] → x ∉ [40, 41, 42, 43, 44, 49, 50, 51, 53, 54, 55, 56, 57, 58, 59] → M7 x = M x := fun x x1 x2 x3 => (r2 x x3).trans (frA x x1 x2)
            have np := hpn p (by simp)
            have np1 := hpn (p + 1) (by simp)
            refine Inv_k3 h ?_ ?_ (fun x hx => ?_) ?_ ?_ ?_ ?_ (fun k hk => ?_)
            · refine ⟨by rw [r3, ← w4]; exact w5, fun j => by rw [r2 2 (by decide), w4, r3], ?_⟩
              rw [zM 3 (hFO 3 (by simp)) (by decide) (by decide)]
              exact j3
            · obtain ⟨t1, t2, t3, t4, t5, t6⟩ := r4
              have o6 := w6
              rw [w3] at o6
              unfold I2
              rw [r2 1 (by decide), w3]
              exact ⟨t1, t2, t3, t4, t5, t6, o6.2.1, o6.2.2⟩
            · rcases hc4 x hx with (z | z | z) | z
              · rw [z, k2]; exact frA 42 (hFO 42 (by simp)) (by decide)
              · rw [z, k3]; exact frA 44 (hFO 44 (by simp)) (by decide)
              · rw [z, k4]; exact frA 49 (hFO 49 (by simp)) (by decide)
              · exact zM x (hc1.2 x hx) z.1 z.2
            · rw [ep]
              exact zM p (hFO p (by simp)) np.1 np.2.1
            · rw [ep]
              exact zM (p + 1) (hFO (p + 1) (by simp)) np1.1 np1.2.1
            · rw [zM 0 (hFO 0 (by simp)) (by decide) (by decide)]
            · rw [zM 0 (hFO 0 (by simp)) (by decide) (by decide)]
            · rw [k1 k hk, z40]
      · -- no room
        rw [bz_f ok] at pre
        have r1 := RT_e rt (M' := M1) (fun x hx => p2 x (hc1.1 x hx))
        obtain ⟨M2, d1, d2, d3⟩ := (d_plan (b := b) cp r1).2 ok
        have z40 : M1 40 = M 40 := p2 40 (hFO 40 (by simp))
        refine ⟨-4, b, M1, M2, pre _ ?_, preM b M1 _ z40 d1, ?_⟩
        · refine i_if_ne_f rfl (by first | omega | assumption) ?_
          refine i_bipush (n := -4) rfl (by unfold iR; omega) (by decide) ?_
          -- at 58
          exact i_ireturn rfl rfl
        · have zM : ∀ x, x ∉ FO o → x ∉ FM → M2 x = M x := fun x x1 x2 => (d2 x x2).trans (p2 x x1)
          have np := hpn p (by simp)
          have np1 := hpn (p + 1) (by simp)
          have g40 : ∀ k, k ≠ 20 → k ≠ 21 → k ≠ 25 → k ≠ 26 → M2 40 k = M 40 k := fun k a1 a2 a3 a4 => by rw [d3 k a1 a2 a3 a4, z40]
          refine Inv_k3 h ?_ ?_ (fun x hx => ?_) ?_ ?_ ?_ ?_ (fun k hk => ?_)
          · unfold I1
            rw [zM 41 (hFO 41 (by simp)) (by decide), zM 2 (hFO 2 (by simp)) (by decide), zM 3 (hFO 3 (by simp)) (by decide)]
            exact ⟨j1, j2, j3⟩
          · unfold I2
            rw [zM 1 (hFO 1 (by simp)) (by decide), g40 1 (by decide) (by decide) (by decide) (by decide), g40 2 (by decide) (by decide) (by decide) (by decide), g40 3 (by decide) (by decide) (by decide) (by decide)]
            exact ⟨Or.inl a1, a2.trans a1.symm, a3, a4, a5, a6, a7, by omega⟩
          · exact zM x (hc1.2 x hx) (hc3 x hx)
          · rw [ep]
            exact zM p (hFO p (by simp)) np.2.2.1
          · rw [ep]
            exact zM (p + 1) (hFO (p + 1) (by simp)) np1.2.2.1
          · rw [zM 0 (hFO 0 (by simp)) (by decide)]
          · rw [zM 0 (hFO 0 (by simp)) (by decide)]
          · simp only [List.mem_cons, List.not_mem_nil, not_or, or_false] at hk
            exact g40 k hk.2.2.2.1 hk.2.2.2.2.1 hk.2.2.2.2.2.1 hk.2.2.2.2.2.2
  · refine ⟨-9, b, M, M, ?_, ?_, Inv_w h (by omega)⟩
    · refine i_aload_n rfl rfl ?_
      refine i_getr rfl rfl rfl rfl (by decide) rfl ?_
      -- at 4
      refine i_call (T := (34, zp_34)) rfl rfl (c_isStopped (Or.inr a1)) rfl rfl rfl rfl rfl rfl rfl ?_
      try dsimp only
      show irun none zp_5 7 _ (iI (M 1 4) :: _) _ _ 0 0 _
      refine i_if_eq_f rfl (by first | omega | assumption) ?_
      refine i_bipush (n := -9) rfl (by unfold iR; omega) (by decide) ?_
      -- at 12
      exact i_ireturn rfl rfl
    · refine i_aload_n rfl rfl ?_
      refine i_getf rfl rfl rfl rfl (by decide) ?_
      refine i_if_eq_f rfl (by first | omega | assumption) ?_
      refine i_bipush (n := -9) rfl (by unfold iR; omega) (by decide) ?_
      -- at 9
      exact i_ireturn rfl rfl
