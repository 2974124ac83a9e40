theorem tk_ok {f : Nat → Int} {s : Nat} (hf : by8 f 720) (hs : s < 48) (h : tk f s) : (0 ≤ cn f s ∧ cn f s ≤ 10) ∧ (∀ k : Nat, (k : Int) < cn f s → Ent (tw f s) k) ∧ (∀ k : Nat, (k : Int) + 1 < cn f s → tw f s (7 * k) < tw f s (7 * (k + 1)) ∨ (tw f s (7 * k) = tw f s (7 * (k + 1)) ∧ tw f s (7 * k + 1) < tw f s (7 * (k + 1) + 1))) := by
  obtain ⟨-, -, h0 | ⟨h0, h1, h2, h3, h4, h5, h6⟩⟩ := h
  · have e : cn f s = 0 := by unfold cn; rw [if_pos h0]
    rw [e]
    exact ⟨by omega, fun k hk => by omega, fun k hk => by omega⟩
  · have e : cn f s = Rd f (rd f s 3).toNat 0 := by unfold cn; rw [if_neg h0]
    rw [← e] at h3 h4 h5 h6
    have hb : ∀ j : Nat, (j : Int) < 7 * cn f s → 0 ≤ tw f s j ∧ tw f s j < 256 := by
      intro j hj
      exact rd_b hf (by omega) (by omega)
    refine ⟨by omega, fun k hk => ?_, fun k hk => ?_⟩
    · obtain ⟨a1, a2, a3, ⟨a4, a5, a6⟩, -⟩ := h6 k hk
      have b0 := hb (7 * k) (by omega)
      have b1 := hb (7 * k + 1) (by omega)
      have b4 := hb (7 * k + 4) (by omega)
      have b5 := hb (7 * k + 5) (by omega)
      have b6 := hb (7 * k + 6) (by omega)
      have a1 : tw f s (7 * k) < 8 := a1
      have a2 : 0 < tw f s (7 * k + 1) := a2
      have a3 : tw f s (7 * k + 5) ≤ 24 := a3
      exact ⟨by omega, by omega, a4, a5, a6, by omega, by omega, by omega⟩
    · obtain ⟨-, -, -, -, a⟩ := h6 (k + 1) (by omega)
      rcases a with a | a
      · omega
      · exact a
theorem st_409 {M : iM} {x v : Int} {B : Nat → Int} : i_st (va_up (va_up M 40 (va_up (M 40) 9 x)) 44 B) 40 9 v = va_up (va_up M 40 (va_up (M 40) 9 v)) 44 B := by
  show va_up (va_up (va_up M 40 (va_up (M 40) 9 x)) 44 B) 40 (va_up (va_up (M 40) 9 x) 9 v) = _
  rw [up_sw (c := 44) (d := 40) (by decide), up_up]
  congr 2
  funext j
  by_cases e : j = 9
  · rw [e, up_s, up_s]
  · rw [up_n e, up_n e, up_n e]
set_option maxRecDepth 100000 in
theorem d_number {b : Bool} {M : iM} {s : Nat} (hs : s < 48) (hf : by8 (M 41) 720) (hr : rk (M 41) s = 1) : ∃ M', irun none zp_141 0 (i_ent [iP 40, iI (s : Int)] 2) [] (SH b) M 0 0 (some (rd (M 41) s 2), SH b, M') ∧ Fr [51] M M' := by
  obtain ⟨M1, h1, f1, g1⟩ := d_readF (b := b) (M := M) hs hf
  refine ⟨M1, ?_, f1⟩
  rw [← g1 hr 2 (by decide)]
  refine i_aload_n rfl rfl ?_
  refine i_iload_n rfl rfl ?_
  -- at 2
  refine i_call (T := (115, zp_115)) rfl rfl (h1) rfl rfl rfl rfl rfl rfl rfl ?_
  try dsimp only
  show irun none zp_141 5 _ (iI (rk (M 41) s) :: _) _ _ 0 0 _
  first | refine i_pop rfl ?_ | refine i_popr rfl ?_
  refine i_aload_n rfl rfl ?_
  refine i_getr rfl rfl rfl rfl (by decide) rfl ?_
  refine i_iconst (n := 2) rfl (by unfold iR; omega) ?_
  refine i_iald rfl rfl (by first | omega | assumption) (by first | omega | assumption) (by decide) ?_
  -- at 12
  exact i_ireturn rfl rfl
set_option maxRecDepth 100000 in
theorem d_settleL {b : Bool} {M : iM} {s : Int} {l2 : Int} {n : Nat} (hn : M 42 0 = n) (h10 : n ≤ 10) (h9 : M 40 9 = 0) (hw : ∀ k, k < n → 0 ≤ M 42 (1 + 7 * k) ∧ M 42 (1 + 7 * k) ≤ 7) :
    irun none zp_142 87 [some (iP 40), some (iI s), some (iI l2), some (iI 0), none] [] (SH b) M 0 0 (none, SH b, va_up (va_up M 40 (va_up (M 40) 9 (mxt (fun j => M 42 (1 + j)) n))) 44 (bsf (M 44) (fun j => M 42 (1 + j)) n)) := by
  have loop : ∀ (c k : Nat), k + c = n → ∀ l4 : Option iV, irun none zp_142 87 [some (iP 40), some (iI s), some (iI l2), some (iI (k : Int)), l4] [] (SH b) (va_up (va_up M 40 (va_up (M 40) 9 (mxt (fun j => M 42 (1 + j)) k))) 44 (bsf (M 44) (fun j => M 42 (1 + j)) k)) 0 0 (none, SH b, va_up (va_up M 40 (va_up (M 40) 9 (mxt (fun j => M 42 (1 + j)) n))) 44 (bsf (M 44) (fun j => M 42 (1 + j)) n)) := by
    intro c
    induction c with
    | zero =>
      intro k hk l4
      obtain rfl : k = n := by omega
      refine i_iload_n rfl rfl ?_
      refine i_aload_n rfl rfl ?_
      refine i_getr rfl rfl rfl rfl (by decide) rfl ?_
      refine i_iconst (n := 0) rfl (by unfold iR; omega) ?_
      refine i_iald rfl rfl (by first | omega | assumption) (by first | omega | assumption) (by decide) ?_
      -- at 94
      show irun none zp_142 94 _ (iI (M 42 0) :: _) _ _ 0 0 _
      refine i_icmp_ge_t rfl (by first | omega | assumption) ?_
      -- at 209
      exact i_vreturn rfl rfl
    | succ c ih =>
      intro k hk l4
      have hwk := hw k (by omega)
      have E0 : (1 + 7 * (k : Int)).toNat = 1 + 7 * k := by omega
      have E1 : (1 + 7 * (k : Int) + 1).toNat = 1 + (7 * k + 1) := by omega
      have E6 : (1 + 7 * (k : Int) + 6).toNat = 1 + (7 * k + 6) := by omega
      have second : ∀ (x : Int) (l4 : Option iV), x = mxt (fun j => M 42 (1 + j)) (k + 1) → irun none zp_142 143 [some (iP 40), some (iI s), some (iI l2), some (iI (k : Int)), some (iI (1 + 7 * (k : Int)))] [] (SH b) (va_up (va_up M 40 (va_up (M 40) 9 x)) 44 (bsf (M 44) (fun j => M 42 (1 + j)) k)) 0 0 (none, SH b, va_up (va_up M 40 (va_up (M 40) 9 (mxt (fun j => M 42 (1 + j)) n))) 44 (bsf (M 44) (fun j => M 42 (1 + j)) n)) := by
        intro x l4 hx
        have hnx := ih (k + 1) (by omega) (some (iI (1 + 7 * (k : Int))))
        rw [← hx] at hnx
        by_cases c : bsf (M 44) (fun j => M 42 (1 + j)) k (M 42 (1 + 7 * k)).toNat < M 42 (1 + (7 * k + 1))
        · have hb : bsf (M 44) (fun j => M 42 (1 + j)) (k + 1) = va_up (bsf (M 44) (fun j => M 42 (1 + j)) k) (M 42 (1 + 7 * k)).toNat (M 42 (1 + (7 * k + 1))) := by
            show va_up _ _ (if _ < _ then _ else _) = _
            rw [if_pos c]
          refine i_aload_n rfl rfl ?_
          refine i_getr rfl rfl rfl rfl (by decide) rfl ?_
          refine i_aload_n rfl rfl ?_
          refine i_getr rfl rfl rfl rfl (by decide) rfl ?_
          refine i_iload rfl rfl ?_
          refine i_iald rfl rfl (by first | omega | assumption) (by first | omega | assumption) (by decide) ?_
          -- at 154
          rw [E0]
          refine i_aload_n rfl rfl ?_
          refine i_getr rfl rfl rfl rfl (by decide) rfl ?_
          refine i_iload rfl rfl ?_
          refine i_iconst (n := 1) rfl (by unfold iR; omega) ?_
          refine i_iadd rfl (by unfold iR; omega) ?_
          refine i_iald rfl rfl (by first | omega | assumption) (by first | omega | assumption) (by decide) ?_
          -- at 163
          rw [E1]
          refine i_aload_n rfl rfl ?_
          refine i_getr rfl rfl rfl rfl (by decide) rfl ?_
          refine i_aload_n rfl rfl ?_
          refine i_getr rfl rfl rfl rfl (by decide) rfl ?_
          refine i_iload rfl rfl ?_
          refine i_iald rfl rfl (by first | omega | assumption) (by first | omega | assumption) (by decide) ?_
          -- at 174
          rw [E0]
          show irun none zp_142 174 _ (iI (M 42 (1 + 7 * k)) :: iP 44 :: iI (M 42 (1 + (7 * k + 1))) :: iI (M 42 (1 + 7 * k)) :: _) _ _ 0 0 _
          refine i_iald rfl rfl (by first | omega | assumption) (by first | omega | assumption) (by decide) ?_
          -- at 175
          show irun none zp_142 175 _ (iI (bsf (M 44) (fun j => M 42 (1 + j)) k (M 42 (1 + 7 * k)).toNat) :: iI (M 42 (1 + (7 * k + 1))) :: iI (M 42 (1 + 7 * k)) :: _) _ _ 0 0 _
          refine i_icmp_le_f rfl (by first | omega | assumption) ?_
          refine i_aload_n rfl rfl ?_
          refine i_getr rfl rfl rfl rfl (by decide) rfl ?_
          refine i_iload rfl rfl ?_
          refine i_iconst (n := 1) rfl (by unfold iR; omega) ?_
          refine i_iadd rfl (by unfold iR; omega) ?_
          refine i_iald rfl rfl (by first | omega | assumption) (by first | omega | assumption) (by decide) ?_
          -- at 187
          rw [E1]
          show irun none zp_142 187 _ (iI (M 42 (1 + (7 * k + 1))) :: iI (M 42 (1 + 7 * k)) :: _) _ _ 0 0 _
          refine i_goto rfl ?_
          refine i_iast rfl rfl (by first | omega | assumption) (by first | omega | assumption) ?_
          refine i_iinc rfl rfl (by unfold iR; omega) (Nat.le_of_ble_eq_true rfl) rfl ?_
          refine i_goto rfl ?_
          -- at 87
          rw [st_up hb.symm]
          exact hnx
        · have hb : bsf (M 44) (fun j => M 42 (1 + j)) (k + 1) = va_up (bsf (M 44) (fun j => M 42 (1 + j)) k) (M 42 (1 + 7 * k)).toNat (bsf (M 44) (fun j => M 42 (1 + j)) k (M 42 (1 + 7 * k)).toNat) := by
            show va_up _ _ (if _ < _ then _ else _) = _
            rw [if_neg c]
          refine i_aload_n rfl rfl ?_
          refine i_getr rfl rfl rfl rfl (by decide) rfl ?_
          refine i_aload_n rfl rfl ?_
          refine i_getr rfl rfl rfl rfl (by decide) rfl ?_
          refine i_iload rfl rfl ?_
          refine i_iald rfl rfl (by first | omega | assumption) (by first | omega | assumption) (by decide) ?_
          -- at 154
          rw [E0]
          refine i_aload_n rfl rfl ?_
          refine i_getr rfl rfl rfl rfl (by decide) rfl ?_
          refine i_iload rfl rfl ?_
          refine i_iconst (n := 1) rfl (by unfold iR; omega) ?_
          refine i_iadd rfl (by unfold iR; omega) ?_
          refine i_iald rfl rfl (by first | omega | assumption) (by first | omega | assumption) (by decide) ?_
          -- at 163
          rw [E1]
          refine i_aload_n rfl rfl ?_
          refine i_getr rfl rfl rfl rfl (by decide) rfl ?_
          refine i_aload_n rfl rfl ?_
          refine i_getr rfl rfl rfl rfl (by decide) rfl ?_
          refine i_iload rfl rfl ?_
          refine i_iald rfl rfl (by first | omega | assumption) (by first | omega | assumption) (by decide) ?_
          -- at 174
          rw [E0]
          show irun none zp_142 174 _ (iI (M 42 (1 + 7 * k)) :: iP 44 :: iI (M 42 (1 + (7 * k + 1))) :: iI (M 42 (1 + 7 * k)) :: _) _ _ 0 0 _
          refine i_iald rfl rfl (by first | omega | assumption) (by first | omega | assumption) (by decide) ?_
          -- at 175
          show irun none zp_142 175 _ (iI (bsf (M 44) (fun j => M 42 (1 + j)) k (M 42 (1 + 7 * k)).toNat) :: iI (M 42 (1 + (7 * k + 1))) :: iI (M 42 (1 + 7 * k)) :: _) _ _ 0 0 _
          refine i_icmp_le_t rfl (by first | omega | assumption) ?_
          refine i_aload_n rfl rfl ?_
          refine i_getr rfl rfl rfl rfl (by decide) rfl ?_
          refine i_aload_n rfl rfl ?_
          refine i_getr rfl rfl rfl rfl (by decide) rfl ?_
          refine i_iload rfl rfl ?_
          refine i_iald rfl rfl (by first | omega | assumption) (by first | omega | assumption) (by decide) ?_
          -- at 201
          rw [E0]
          show irun none zp_142 201 _ (iI (M 42 (1 + 7 * k)) :: iP 44 :: iI (M 42 (1 + 7 * k)) :: _) _ _ 0 0 _
          refine i_iald rfl rfl (by first | omega | assumption) (by first | omega | assumption) (by decide) ?_
          -- at 202
          show irun none zp_142 202 _ (iI (bsf (M 44) (fun j => M 42 (1 + j)) k (M 42 (1 + 7 * k)).toNat) :: iI (M 42 (1 + 7 * k)) :: _) _ _ 0 0 _
          refine i_iast rfl rfl (by first | omega | assumption) (by first | omega | assumption) ?_
          refine i_iinc rfl rfl (by unfold iR; omega) (Nat.le_of_ble_eq_true rfl) rfl ?_
          refine i_goto rfl ?_
          -- at 87
          rw [st_up hb.symm]
          exact hnx
      refine i_iload_n rfl rfl ?_
      refine i_aload_n rfl rfl ?_
      refine i_getr rfl rfl rfl rfl (by decide) rfl ?_
      refine i_iconst (n := 0) rfl (by unfold iR; omega) ?_
      refine i_iald rfl rfl (by first | omega | assumption) (by first | omega | assumption) (by decide) ?_
      -- at 94
      show irun none zp_142 94 _ (iI (M 42 0) :: _) _ _ 0 0 _
      refine i_icmp_ge_f rfl (by first | omega | assumption) ?_
      refine i_iconst (n := 1) rfl (by unfold iR; omega) ?_
      refine i_bipush (n := 7) rfl (by unfold iR; omega) (by decide) ?_
      refine i_iload_n rfl rfl ?_
      refine i_imul rfl (by unfold iR; omega) ?_
      refine i_iadd rfl (by unfold iR; omega) ?_
      refine i_istore rfl (Nat.le_of_ble_eq_true rfl) rfl ?_
      refine i_aload_n rfl rfl ?_
      refine i_aload_n rfl rfl ?_
      refine i_getr rfl rfl rfl rfl (by decide) rfl ?_
      refine i_iload rfl rfl ?_
      refine i_bipush (n := 6) rfl (by unfold iR; omega) (by decide) ?_
      refine i_iadd rfl (by unfold iR; omega) ?_
      refine i_iald rfl rfl (by first | omega | assumption) (by first | omega | assumption) (by decide) ?_
      -- at 116
      rw [E6]
      refine i_aload_n rfl rfl ?_
      refine i_getf rfl rfl rfl rfl (by decide) ?_
      -- at 120
      show irun none zp_142 120 _ (iI (mxt (fun j => M 42 (1 + j)) k) :: iI (M 42 (1 + (7 * k + 6))) :: _) _ _ 0 0 _
      by_cases c : mxt (fun j => M 42 (1 + j)) k < M 42 (1 + (7 * k + 6))
      · refine i_icmp_le_f rfl (by first | omega | assumption) ?_
        refine i_aload_n rfl rfl ?_
        refine i_getr rfl rfl rfl rfl (by decide) rfl ?_
        refine i_iload rfl rfl ?_
        refine i_bipush (n := 6) rfl (by unfold iR; omega) (by decide) ?_
        refine i_iadd rfl (by unfold iR; omega) ?_
        refine i_iald rfl rfl (by first | omega | assumption) (by first | omega | assumption) (by decide) ?_
        -- at 133
        rw [E6]
        show irun none zp_142 133 _ (iI (M 42 (1 + (7 * k + 6))) :: _) _ _ 0 0 _
        refine i_goto rfl ?_
        refine i_puti rfl rfl rfl rfl ?_
        -- at 143
        rw [st_409]
        refine second _ none ?_
        show _ = if _ < _ then _ else _
        rw [if_pos c]
      · refine i_icmp_le_t rfl (by first | omega | assumption) ?_
        refine i_aload_n rfl rfl ?_
        refine i_getf rfl rfl rfl rfl (by decide) ?_
        -- at 140
        show irun none zp_142 140 _ (iI (mxt (fun j => M 42 (1 + j)) k) :: _) _ _ 0 0 _
        refine i_puti rfl rfl rfl rfl ?_
        -- at 143
        rw [st_409]
        refine second _ none ?_
        show _ = if _ < _ then _ else _
        rw [if_neg c]
  have h0 := loop n 0 (by omega) none
  rw [show va_up (va_up M 40 (va_up (M 40) 9 (mxt (fun j => M 42 (1 + j)) 0))) 44 (bsf (M 44) (fun j => M 42 (1 + j)) 0) = M by
    rw [show va_up (M 40) 9 (mxt (fun j => M 42 (1 + j)) 0) = M 40 by
      funext j
      by_cases e : j = 9
      · rw [e, up_s, h9]; rfl
      · rw [up_n e], up_id M 40 rfl]
    exact up_id M 44 rfl] at h0
  exact h0
set_option maxRecDepth 100000 in
theorem d_settle {b : Bool} {M : iM} {s : Nat} (hs : s < 48) (hf : by8 (M 41) 720) (ht : tk (M 41) s) (h9 : M 40 9 = 0) :
    ∃ M', irun none zp_142 0 (i_ent [iP 40, iI (s : Int)] 5) [] (SH b) M 0 0 (none, SH b, M') ∧ Fr [40, 42, 44, 51, 60] M M' ∧ M' 40 6 = rd (M 41) s 3 ∧ M' 40 7 = rd (M 41) s 4 ∧ M' 40 9 = mxt (tw (M 41) s) (cn (M 41) s).toNat ∧ (∀ k, k ≠ 6 → k ≠ 7 → k ≠ 9 → M' 40 k = M 40 k) ∧ M' 42 0 = cn (M 41) s ∧ (∀ j : Nat, (j : Int) < 7 * cn (M 41) s → M' 42 (1 + j) = tw (M 41) s j) ∧ ∀ k, k < 8 → M' 44 k = bsf (M 44) (tw (M 41) s) (cn (M 41) s).toNat k := by
  obtain ⟨t1, t2, -⟩ := tk_ok hf hs ht
  obtain ⟨n, hn⟩ := Int.eq_ofNat_of_zero_le t1.1
  obtain ⟨M1, h1, f1, g1⟩ := d_readF (b := b) (M := M) hs hf
  have g1 := g1 ht.1
  obtain ⟨M2, hM2⟩ : ∃ M2, M2 = i_st (i_st M1 40 6 (rd (M 41) s 3)) 40 7 (rd (M 41) s 4) := ⟨_, rfl⟩
  have f2 : Fr [40, 51] M M2 := by
    rw [hM2]
    exact Fr_st (Fr_st (Fr_t (Fr_r _ _) f1 (by simp)) (by simp)) (by simp)
  have e41 : M2 41 = M 41 := f2 41 (by decide)
  obtain ⟨M3, h3, f3, g3⟩ := d_isTaken (b := b) (M := M2) hs (by rw [e41]; exact hf)
  rw [e41] at h3 g3
  rw [bz_t ht] at h3
  obtain ⟨g30, g31⟩ := g3 ht
  have q40 : ∀ k, M3 40 k = if k = 7 then rd (M 41) s 4 else if k = 6 then rd (M 41) s 3 else M 40 k := by
    intro k
    rw [f3 40 (by decide), hM2]
    show (if k = 7 then _ else if k = 6 then _ else M1 40 k) = _
    rw [f1 40 (by decide)]
  have fr3 : Fr [40, 42, 44, 51, 60] M M3 := Fr_t (Fr_t (Fr_r _ _) f2 (by simp)) f3 (by simp)
  rw [hn] at g30
  obtain ⟨M4, hM4⟩ : ∃ M4, M4 = va_up M3 42 (fun j => if j < 1 + 7 * n then M3 60 j else M3 42 j) := ⟨_, rfl⟩
  have e420 : M4 42 0 = n := by
    rw [hM4, up_s, if_pos (by omega)]
    exact g30
  have e42 : ∀ j : Nat, (j : Int) < 7 * cn (M 41) s → M4 42 (1 + j) = tw (M 41) s j := by
    intro j hj
    rw [hM4, up_s, if_pos (by omega)]
    exact g31 j hj
  have e9 : M4 40 9 = 0 := by
    rw [hM4]
    show M3 40 9 = 0
    rw [q40]
    exact h9
  have h4 := d_settleL (b := b) (M := M4) (s := (s : Int)) (l2 := 1 + 7 * (n : Int)) e420 (by omega) e9 (fun k hk => by
    rw [e42 (7 * k) (by omega)]
    exact (t2 k (by omega)).1)
  refine ⟨va_up (va_up M4 40 (va_up (M4 40) 9 (mxt (fun j => M4 42 (1 + j)) n))) 44 (bsf (M4 44) (fun j => M4 42 (1 + j)) n), ?_, Fr_up (Fr_up (show Fr [40, 42, 44, 51, 60] M M4 by rw [hM4]; exact Fr_up fr3 (by simp)) (by simp)) (by simp), ?_, ?_, ?_, ?_, e420.trans hn.symm, e42, ?_⟩
  rotate_left
  · show M4 40 6 = _
    rw [hM4]
    exact q40 6
  · show M4 40 7 = _
    rw [hM4]
    exact q40 7
  · show mxt (fun j => M4 42 (1 + j)) n = _
    rw [show (cn (M 41) s).toNat = n by omega]
    exact mxt_c (fun j hj => e42 _ (by omega))
  · intro k k6 k7 k9
    show va_up (M4 40) 9 _ k = _
    rw [up_n k9, hM4]
    show M3 40 k = _
    rw [q40, if_neg k7, if_neg k6]
  · intro k hk
    show bsf (M4 44) (fun j => M4 42 (1 + j)) n k = _
    rw [show (cn (M 41) s).toNat = n by omega]
    refine bsf_c (fun k _ => ?_) (fun j hj => ⟨e42 _ (by omega), e42 _ (by omega), (t2 j (by omega)).1⟩) k hk
    rw [hM4]
    show M3 44 k = _
    rw [f3 44 (by decide), f2 44 (by decide)]
  have cp : ∀ (c k : Nat), k + c = 1 + 7 * n → irun none zp_142 62 [some (iP 40), some (iI (s : Int)), some (iI (1 + 7 * (n : Int))), some (iI (k : Int)), none] [] (SH b) (va_up M3 42 (fun j => if j < k then M3 60 j else M3 42 j)) 0 0 (none, SH b, va_up (va_up M4 40 (va_up (M4 40) 9 (mxt (fun j => M4 42 (1 + j)) n))) 44 (bsf (M4 44) (fun j => M4 42 (1 + j)) n)) := by
    intro c
    induction c with
    | zero =>
      intro k hk
      obtain rfl : k = 1 + 7 * n := by omega
      rw [← hM4]
      refine i_iload_n rfl rfl ?_
      refine i_iload_n rfl rfl ?_
      refine i_icmp_ge_t rfl (by first | omega | assumption) ?_
      refine i_iconst (n := 0) rfl (by unfold iR; omega) ?_
      refine i_istore_n rfl (Nat.le_of_ble_eq_true rfl) rfl ?_
      -- at 87
      exact h4
    | succ c ih =>
      intro k hk
      have hnx := ih (k + 1) (by omega)
      refine i_iload_n rfl rfl ?_
      refine i_iload_n rfl rfl ?_
      refine i_icmp_ge_f rfl (by first | omega | assumption) ?_
      refine i_aload_n rfl rfl ?_
      refine i_getr rfl rfl rfl rfl (by decide) rfl ?_
      refine i_iload_n rfl rfl ?_
      refine i_aload_n rfl rfl ?_
      refine i_getr rfl rfl rfl rfl (by decide) rfl ?_
      refine i_iload_n rfl rfl ?_
      refine i_iald rfl rfl (by first | omega | assumption) (by first | omega | assumption) (by decide) ?_
      refine i_iast rfl rfl (by first | omega | assumption) (by first | omega | assumption) ?_
      refine i_iinc rfl rfl (by unfold iR; omega) (Nat.le_of_ble_eq_true rfl) rfl ?_
      refine i_goto rfl ?_
      -- at 62
      rw [st_up (g := fun j => if j < k + 1 then M3 60 j else M3 42 j)]
      · exact hnx
      · rw [show (k : Int).toNat = k by omega]
        exact up_step rfl
  have cp0 := cp (1 + 7 * n) 0 (by omega)
  rw [up_id M3 42 (f := fun j => if j < 0 then M3 60 j else M3 42 j) (by funext j; rw [if_neg (by omega)])] at cp0
  refine i_aload_n rfl rfl ?_
  refine i_iload_n rfl rfl ?_
  -- at 2
  refine i_call (T := (115, zp_115)) rfl rfl (h1) rfl rfl rfl rfl rfl rfl rfl ?_
  try dsimp only
  show irun none zp_142 5 _ (iI (rk (M 41) s) :: _) _ _ 0 0 _
  first | refine i_pop rfl ?_ | refine i_popr rfl ?_
  refine i_aload_n rfl rfl ?_
  refine i_aload_n rfl rfl ?_
  refine i_getr rfl rfl rfl rfl (by decide) rfl ?_
  refine i_iconst (n := 3) rfl (by unfold iR; omega) ?_
  refine i_iald rfl rfl (by first | omega | assumption) (by first | omega | assumption) (by decide) ?_
  -- at 13
  show irun none zp_142 13 _ (iI (M1 51 3) :: _) _ _ 0 0 _
  rw [g1 3 (by decide)]
  refine i_puti rfl rfl rfl rfl ?_
  refine i_aload_n rfl rfl ?_
  refine i_aload_n rfl rfl ?_
  refine i_getr rfl rfl rfl rfl (by decide) rfl ?_
  refine i_iconst (n := 4) rfl (by unfold iR; omega) ?_
  refine i_iald rfl rfl (by first | omega | assumption) (by first | omega | assumption) (by decide) ?_
  -- at 23
  show irun none zp_142 23 _ (iI (M1 51 4) :: _) _ _ 0 0 _
  rw [g1 4 (by decide)]
  refine i_puti rfl rfl rfl rfl ?_
  refine i_aload_n rfl rfl ?_
  refine i_iload_n rfl rfl ?_
  -- at 28
  rw [← hM2]
  refine i_call (T := (139, zp_139)) rfl rfl (h3) rfl rfl rfl rfl rfl rfl rfl ?_
  try dsimp only
  show irun none zp_142 31 _ (iI (1) :: _) _ _ 0 0 _
  refine i_if_ne_t rfl (by first | omega | assumption) ?_
  refine i_aload_n rfl rfl ?_
  refine i_getr rfl rfl rfl rfl (by decide) rfl ?_
  refine i_iconst (n := 0) rfl (by unfold iR; omega) ?_
  refine i_iald rfl rfl (by first | omega | assumption) (by first | omega | assumption) (by decide) ?_
  -- at 41
  show irun none zp_142 41 _ (iI (M3 60 0) :: _) _ _ 0 0 _
  rw [g30]
  by_cases c0 : n = 0
  · subst c0
    refine i_if_ne_f rfl (by first | omega | assumption) ?_
    refine i_iconst (n := 1) rfl (by unfold iR; omega) ?_
    refine i_goto rfl ?_
    refine i_istore_n rfl (Nat.le_of_ble_eq_true rfl) rfl ?_
    refine i_iconst (n := 0) rfl (by unfold iR; omega) ?_
    refine i_istore_n rfl (Nat.le_of_ble_eq_true rfl) rfl ?_
    -- at 62
    exact cp0
  · refine i_if_ne_t rfl (by first | omega | assumption) ?_
    refine i_iconst (n := 1) rfl (by unfold iR; omega) ?_
    refine i_bipush (n := 7) rfl (by unfold iR; omega) (by decide) ?_
    refine i_aload_n rfl rfl ?_
    refine i_getr rfl rfl rfl rfl (by decide) rfl ?_
    refine i_iconst (n := 0) rfl (by unfold iR; omega) ?_
    refine i_iald rfl rfl (by first | omega | assumption) (by first | omega | assumption) (by decide) ?_
    -- at 57
    show irun none zp_142 57 _ (iI (M3 60 0) :: _) _ _ 0 0 _
    rw [g30]
    refine i_imul rfl (by unfold iR; omega) ?_
    refine i_iadd rfl (by unfold iR; omega) ?_
    refine i_istore_n rfl (Nat.le_of_ble_eq_true rfl) rfl ?_
    refine i_iconst (n := 0) rfl (by unfold iR; omega) ?_
    refine i_istore_n rfl (Nat.le_of_ble_eq_true rfl) rfl ?_
    -- at 62
    exact cp0
