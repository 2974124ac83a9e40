noncomputable def cs (f : Nat → Int) : Nat := @ite _ (tk f 1 ∧ (¬ tk f 0 ∨ rd f 1 2 = (rd f 0 2 + 1) % 256)) (Classical.propDecidable _) 1 0
noncomputable def oN (f : Nat → Int) : Int := @ite _ (tk f 0 ∨ tk f 1) (Classical.propDecidable _) (cn f (cs f)) 0
noncomputable def oH (f : Nat → Int) (k : Nat) : Int := @ite _ (tk f 0 ∨ tk f 1) (Classical.propDecidable _) (rd f (cs f) k) 0
noncomputable abbrev oW (f : Nat → Int) (j : Nat) : Int := tw f (cs f) j
theorem cs_1 {f : Nat → Int} (h : tk f 1 ∧ (¬ tk f 0 ∨ rd f 1 2 = (rd f 0 2 + 1) % 256)) : cs f = 1 := by unfold cs; rw [if_pos h]
theorem cs_0 {f : Nat → Int} (h : ¬ (tk f 1 ∧ (¬ tk f 0 ∨ rd f 1 2 = (rd f 0 2 + 1) % 256))) : cs f = 0 := by unfold cs; rw [if_neg h]
theorem oN_t {f : Nat → Int} (h : tk f 0 ∨ tk f 1) : oN f = cn f (cs f) := by unfold oN; rw [if_pos h]
theorem oH_t {f : Nat → Int} {k : Nat} (h : tk f 0 ∨ tk f 1) : oH f k = rd f (cs f) k := by unfold oH; rw [if_pos h]
theorem oN_f {f : Nat → Int} (h : ¬ (tk f 0 ∨ tk f 1)) : oN f = 0 := by unfold oN; rw [if_neg h]
theorem oH_f {f : Nat → Int} {k : Nat} (h : ¬ (tk f 0 ∨ tk f 1)) : oH f k = 0 := by unfold oH; rw [if_neg h]
theorem cs_tk {f : Nat → Int} (h : tk f 0 ∨ tk f 1) : tk f (cs f) ∧ cs f < 48 := by
  by_cases c : tk f 1 ∧ (¬ tk f 0 ∨ rd f 1 2 = (rd f 0 2 + 1) % 256)
  · rw [cs_1 c]
    exact ⟨c.1, by decide⟩
  · rw [cs_0 c]
    refine ⟨?_, by decide⟩
    rcases h with h | h
    · exact h
    · by_cases c2 : tk f 0
      · exact c2
      · exact absurd ⟨h, Or.inl c2⟩ c
theorem o_ok {f : Nat → Int} (hf : by8 f 720) : (0 ≤ oN f ∧ oN f ≤ 10) ∧ (∀ k : Nat, (k : Int) < oN f → Ent (oW f) k) ∧ (∀ k : Nat, (k : Int) + 1 < oN f → oW f (7 * k) < oW f (7 * (k + 1)) ∨ (oW f (7 * k) = oW f (7 * (k + 1)) ∧ oW f (7 * k + 1) < oW f (7 * (k + 1) + 1))) ∧ ∀ k, k < 11 → 0 ≤ oH f k ∧ oH f k ≤ 255 := by
  by_cases h : tk f 0 ∨ tk f 1
  · obtain ⟨h1, h2⟩ := cs_tk h
    obtain ⟨a, b, c⟩ := tk_ok hf h2 h1
    rw [oN_t h]
    refine ⟨a, b, c, fun k hk => ?_⟩
    rw [oH_t h]
    have := rd_b (s := cs f) (k := k) hf h2 hk
    omega
  · rw [oN_f h]
    exact ⟨by omega, fun k hk => by omega, fun k hk => by omega, fun k hk => by rw [oH_f h]; omega⟩
theorem cl_o0 {b : Bool} {M : iM} : irun none zp_17 0 (i_ent [iP 0, iI 0, iI 1] 3) [] (SH b) M 0 0 (none, SH (!b), M) := by
  refine i_iload_n rfl rfl ?_
  refine i_if_eq_f rfl (by first | omega | assumption) ?_
  refine i_iload_n rfl rfl ?_
  refine i_if_eq_t rfl (by first | omega | assumption) ?_
  refine i_aload_n rfl rfl ?_
  -- at 26
  refine i_call (T := (20, zp_20)) rfl rfl (c_swap) rfl rfl rfl rfl rfl rfl rfl ?_
  try dsimp only
  refine i_goto rfl ?_
  -- at 43
  exact i_vreturn rfl rfl
set_option maxRecDepth 100000 in
theorem c_open {b : Bool} {M : iM} (hf : by8 (M 2) 720) (hm : ∀ x : Nat, x < 256 → M 3 x = hN 8 (x : Int)) :
    ∃ b' M', irun none zp_12 0 (i_ent [iP 0] 3) [] (SH b) M 0 0 (some (oN (M 2)), SH b', M') ∧ Fr [0, 1, 4, 5, 10, 32, 34, 36, 37, 38, 39] M M' ∧ M' 1 = va_up (M 1) 4 0 ∧ (M' 5 5 = 0 ∧ M' 5 6 = 0 ∧ M' 5 7 = 0 ∧ M' 5 8 = 0) ∧ M' 10 = zz (M 10) ∧ M' 0 7 = M 0 7 ∧ M' 0 8 = mxt (oW (M 2)) (oN (M 2)).toNat ∧ (∀ k, k < 8 → M' 32 k = bsf (fun _ => 0) (oW (M 2)) (oN (M 2)).toNat k) ∧
      M' (pI b') 1 = oN (M 2) ∧ M' (pI b') 2 = oH (M 2) 2 ∧ M' (pI b') 3 = oH (M 2) 3 ∧ M' (pI b') 4 = oH (M 2) 4 ∧ ∀ j : Nat, (j : Int) < 7 * oN (M 2) → M' (pI b' + 1) j = oW (M 2) j := by
  obtain ⟨o1, o2, -, o4⟩ := o_ok hf
  obtain ⟨M1, h1, f1, a1, a2, a3, a4, a5, a6⟩ := c_openA (b := b) (M := M)
  have e12 : M1 2 = M 2 := f1 2 (by decide)
  have e13 : M1 3 = M 3 := f1 3 (by decide)
  obtain ⟨M2, h2, f2, g2⟩ := c_takeHeader (b := b) (M := M1) (p := pI b) (s := 0) (by cases b <;> decide) (by decide) (by rw [e12]; exact hf) (by rw [e13]; exact hm)
  rw [e12] at h2 g2
  have e22 : M2 2 = M 2 := (f2 2 (by cases b <;> decide)).trans e12
  have e23 : M2 3 = M 3 := (f2 3 (by cases b <;> decide)).trans e13
  obtain ⟨M3, h3, f3, g3⟩ := c_takeHeader (b := b) (M := M2) (p := pP b) (s := 1) (by cases b <;> decide) (by decide) (by rw [e22]; exact hf) (by rw [e23]; exact hm)
  rw [e22] at h3 g3
  have k1 : M3 (pI b) = M2 (pI b) := f3 _ (by cases b <;> decide)
  have k2 : M3 (pI b + 1) = M2 (pI b + 1) := f3 _ (by cases b <;> decide)
  rw [← k1, ← k2] at g2
  have fr3 : Fr [0, 1, 4, 5, 10, 32, 34, 36, 37, 38, 39] M M3 := Fr_t (Fr_t (Fr_t (Fr_r _ _) f1 (by decide)) f2 (by cases b <;> decide)) f3 (by cases b <;> decide)
  have z31 : M3 1 = va_up (M 1) 4 0 := ((f3 1 (by cases b <;> decide)).trans (f2 1 (by cases b <;> decide))).trans a1
  have z35 : M3 5 = M1 5 := (f3 5 (by cases b <;> decide)).trans (f2 5 (by cases b <;> decide))
  have z310 : M3 10 = zz (M 10) := ((f3 10 (by cases b <;> decide)).trans (f2 10 (by cases b <;> decide))).trans a6
  have z30 : M3 0 = M 0 := (f3 0 (by cases b <;> decide)).trans ((f2 0 (by cases b <;> decide)).trans (f1 0 (by decide)))
  rw [← z35] at a2 a3 a4 a5
  clear z35 k1 k2
  -- behind the choice
  have fin : ∀ (b' : Bool) (M4 : iM), irun none zp_17 0 (i_ent [iP 0, iI (bz (tk (M 2) 0)), iI (bz (tk (M 2) 1))] 3) [] (SH b) M3 0 0 (none, SH b', M4) → Fr [36, 38] M3 M4 → M4 (pI b') 1 = oN (M 2) → M4 (pI b') 2 = oH (M 2) 2 → M4 (pI b') 3 = oH (M 2) 3 → M4 (pI b') 4 = oH (M 2) 4 → (∀ j : Nat, (j : Int) < 7 * oN (M 2) → M4 (pI b' + 1) j = oW (M 2) j) →
      ∃ b' M', irun none zp_12 0 (i_ent [iP 0] 3) [] (SH b) M 0 0 (some (oN (M 2)), SH b', M') ∧ Fr [0, 1, 4, 5, 10, 32, 34, 36, 37, 38, 39] M M' ∧ M' 1 = va_up (M 1) 4 0 ∧ (M' 5 5 = 0 ∧ M' 5 6 = 0 ∧ M' 5 7 = 0 ∧ M' 5 8 = 0) ∧ M' 10 = zz (M 10) ∧ M' 0 7 = M 0 7 ∧ M' 0 8 = mxt (oW (M 2)) (oN (M 2)).toNat ∧ (∀ k, k < 8 → M' 32 k = bsf (fun _ => 0) (oW (M 2)) (oN (M 2)).toNat k) ∧
        M' (pI b') 1 = oN (M 2) ∧ M' (pI b') 2 = oH (M 2) 2 ∧ M' (pI b') 3 = oH (M 2) 3 ∧ M' (pI b') 4 = oH (M 2) 4 ∧ ∀ j : Nat, (j : Int) < 7 * oN (M 2) → M' (pI b' + 1) j = oW (M 2) j := by
    intro b' M4 h4 f4 p1 p2 p3 p4 p5
    obtain ⟨n, hn⟩ := Int.eq_ofNat_of_zero_le o1.1
    obtain ⟨M5, h5, f5, q1, q2, q3⟩ := c_openZ (b := b') (M := M4) (l1 := some (iI (bz (tk (M 2) 0)))) (l2 := some (iI (bz (tk (M 2) 1)))) (n := n) (p1.trans hn) (by omega) (fun k hk => by
      rw [p5 (7 * k) (by omega)]
      exact (o2 k (by omega)).1)
    have en : (oN (M 2)).toNat = n := by omega
    have w5 : M5 (pI b') = M4 (pI b') := f5 _ (by cases b' <;> decide)
    have w6 : M5 (pI b' + 1) = M4 (pI b' + 1) := f5 _ (by cases b' <;> decide)
    refine ⟨b', M5, h1 _ ?_, Fr_t (Fr_t fr3 f4 (by decide)) f5 (by decide), ?_, ?_, ?_, ?_, ?_, ?_, ?_, ?_, ?_, ?_, ?_⟩
    · rw [hn]
      cases b
      · refine i_aload_n rfl rfl ?_
        refine i_iconst (n := 0) rfl (by unfold iR; omega) ?_
        refine i_aload_n rfl rfl ?_
        refine i_getr (p2 := 36) rfl rfl rfl rfl (by decide) rfl ?_
        -- at 28
        refine i_call (T := (18, zp_18)) rfl rfl (h2) rfl rfl rfl rfl rfl rfl rfl ?_
        try dsimp only
        show irun none zp_12 31 _ (iI (bz (tk (M 2) 0)) :: _) _ _ 0 0 _
        refine i_istore_n rfl (Nat.le_of_ble_eq_true rfl) rfl ?_
        refine i_aload_n rfl rfl ?_
        refine i_iconst (n := 1) rfl (by unfold iR; omega) ?_
        refine i_aload_n rfl rfl ?_
        refine i_getr (p2 := 38) rfl rfl rfl rfl (by decide) rfl ?_
        -- at 38
        refine i_call (T := (18, zp_18)) rfl rfl (h3) rfl rfl rfl rfl rfl rfl rfl ?_
        try dsimp only
        show irun none zp_12 41 _ (iI (bz (tk (M 2) 1)) :: _) _ _ 0 0 _
        refine i_istore_n rfl (Nat.le_of_ble_eq_true rfl) rfl ?_
        refine i_aload_n rfl rfl ?_
        refine i_iload_n rfl rfl ?_
        refine i_iload_n rfl rfl ?_
        -- at 45
        refine i_call (T := (17, zp_17)) rfl rfl (h4) rfl rfl rfl rfl rfl rfl rfl ?_
        try dsimp only
        exact h5
      · refine i_aload_n rfl rfl ?_
        refine i_iconst (n := 0) rfl (by unfold iR; omega) ?_
        refine i_aload_n rfl rfl ?_
        refine i_getr (p2 := 38) rfl rfl rfl rfl (by decide) rfl ?_
        -- at 28
        refine i_call (T := (18, zp_18)) rfl rfl (h2) rfl rfl rfl rfl rfl rfl rfl ?_
        try dsimp only
        show irun none zp_12 31 _ (iI (bz (tk (M 2) 0)) :: _) _ _ 0 0 _
        refine i_istore_n rfl (Nat.le_of_ble_eq_true rfl) rfl ?_
        refine i_aload_n rfl rfl ?_
        refine i_iconst (n := 1) rfl (by unfold iR; omega) ?_
        refine i_aload_n rfl rfl ?_
        refine i_getr (p2 := 36) rfl rfl rfl rfl (by decide) rfl ?_
        -- at 38
        refine i_call (T := (18, zp_18)) rfl rfl (h3) rfl rfl rfl rfl rfl rfl rfl ?_
        try dsimp only
        show irun none zp_12 41 _ (iI (bz (tk (M 2) 1)) :: _) _ _ 0 0 _
        refine i_istore_n rfl (Nat.le_of_ble_eq_true rfl) rfl ?_
        refine i_aload_n rfl rfl ?_
        refine i_iload_n rfl rfl ?_
        refine i_iload_n rfl rfl ?_
        -- at 45
        refine i_call (T := (17, zp_17)) rfl rfl (h4) rfl rfl rfl rfl rfl rfl rfl ?_
        try dsimp only
        exact h5
    · rw [f5 1 (by decide), f4 1 (by decide), z31]
    · rw [f5 5 (by decide), f4 5 (by decide)]
      exact ⟨a2, a3, a4, a5⟩
    · rw [f5 10 (by decide), f4 10 (by decide), z310]
    · rw [q1, f4 0 (by decide), z30]
    · rw [q2, en]
      exact mxt_c (fun j hj => p5 _ (by omega))
    · intro k hk
      rw [q3 k hk, en]
      exact bsf_c (fun _ _ => rfl) (fun j hj => ⟨p5 _ (by omega), p5 _ (by omega), (o2 j (by omega)).1⟩) k hk
    · rw [w5]; exact p1
    · rw [w5]; exact p2
    · rw [w5]; exact p3
    · rw [w5]; exact p4
    · rw [w6]; exact p5
  by_cases z : tk (M 2) 0
  · obtain ⟨x1, x2, x3, x4, x5⟩ := g2 z
    have hb2 := rd_b (s := 0) (k := 2) hf (by decide) (by decide)
    rw [← x2] at hb2
    by_cases o : tk (M 2) 1
    · obtain ⟨y1, y2, y3, y4, y5⟩ := g3 o
      by_cases e : rd (M 2) 1 2 = (rd (M 2) 0 2 + 1) % 256
      · have hc := cs_1 ⟨o, Or.inr e⟩
        refine fin (!b) M3 ?_ (Fr_r _ _) ?_ ?_ ?_ ?_ ?_
        · rw [bz_t z, bz_t o]
          exact cl_o (Or.inr rfl) (Or.inr (by rw [y2, x2]; exact e)) hb2
        · rw [oN_t (Or.inl z), hc, ← y1]; cases b <;> rfl
        · rw [oH_t (Or.inl z), hc, ← y2]; cases b <;> rfl
        · rw [oH_t (Or.inl z), hc, ← y3]; cases b <;> rfl
        · rw [oH_t (Or.inl z), hc, ← y4]; cases b <;> rfl
        · intro j hj
          rw [oN_t (Or.inl z), hc] at hj
          show _ = tw (M 2) (cs (M 2)) j
          rw [hc, ← y5 j hj]; cases b <;> rfl
      · have hc := cs_0 (f := M 2) (fun q => q.2.elim (fun q => q z) e)
        refine fin b M3 ?_ (Fr_r _ _) ?_ ?_ ?_ ?_ ?_
        · rw [bz_t z, bz_t o]
          exact cl_z (Or.inr ⟨rfl, by rw [y2, x2]; exact e⟩) hb2
        · rw [oN_t (Or.inl z), hc, ← x1]
        · rw [oH_t (Or.inl z), hc, ← x2]
        · rw [oH_t (Or.inl z), hc, ← x3]
        · rw [oH_t (Or.inl z), hc, ← x4]
        · intro j hj
          rw [oN_t (Or.inl z), hc] at hj
          show _ = tw (M 2) (cs (M 2)) j
          rw [hc, ← x5 j hj]
    · have hc := cs_0 (f := M 2) (fun q => o q.1)
      refine fin b M3 ?_ (Fr_r _ _) ?_ ?_ ?_ ?_ ?_
      · rw [bz_t z, bz_f o]
        exact cl_z (Or.inl rfl) hb2
      · rw [oN_t (Or.inl z), hc, ← x1]
      · rw [oH_t (Or.inl z), hc, ← x2]
      · rw [oH_t (Or.inl z), hc, ← x3]
      · rw [oH_t (Or.inl z), hc, ← x4]
      · intro j hj
        rw [oN_t (Or.inl z), hc] at hj
        show _ = tw (M 2) (cs (M 2)) j
        rw [hc, ← x5 j hj]
  · by_cases o : tk (M 2) 1
    · obtain ⟨y1, y2, y3, y4, y5⟩ := g3 o
      have hc := cs_1 ⟨o, Or.inl z⟩
      refine fin (!b) M3 ?_ (Fr_r _ _) ?_ ?_ ?_ ?_ ?_
      · rw [bz_f z, bz_t o]
        exact cl_o0
      · rw [oN_t (Or.inr o), hc, ← y1]; cases b <;> rfl
      · rw [oH_t (Or.inr o), hc, ← y2]; cases b <;> rfl
      · rw [oH_t (Or.inr o), hc, ← y3]; cases b <;> rfl
      · rw [oH_t (Or.inr o), hc, ← y4]; cases b <;> rfl
      · intro j hj
        rw [oN_t (Or.inr o), hc] at hj
        show _ = tw (M 2) (cs (M 2)) j
        rw [hc, ← y5 j hj]; cases b <;> rfl
    · have ho : ¬ (tk (M 2) 0 ∨ tk (M 2) 1) := fun q => q.elim z o
      obtain ⟨M4, h4, f4, g4⟩ := cl_n (b := b) (M := M3)
      refine fin b M4 ?_ f4 ?_ ?_ ?_ ?_ ?_
      · rw [bz_f z, bz_f o]
        exact h4
      · rw [oN_f ho]; exact g4.1
      · rw [oH_f ho]; exact g4.2.1
      · rw [oH_f ho]; exact g4.2.2.1
      · rw [oH_f ho]; exact g4.2.2.2
      · intro j hj
        rw [oN_f ho] at hj
        omega
