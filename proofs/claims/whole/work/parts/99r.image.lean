def SI : List zS := [(0, 0, [none, none, none, none, none, none, none, none, none, none, none]), (0, 1, [some 2, some 3, some 4, none, none, none]), (1, 720, []), (1, 256, []), (1, 11, [])]
set_option maxRecDepth 100000 in
theorem ki_cell {M : iM} {s p : Nat} (hs : s < 60) (hp : p < 12) : irun none zp_32 0 (i_ent [iP 1, iI (s : Int), iI (p : Int)] 3) [] SI M 0 0 (some (M 2 (s * 12 + p)), SI, M) := by
  refine i_aload_n rfl rfl ?_
  refine i_getr rfl rfl rfl rfl (by decide) rfl ?_
  refine i_iload_n rfl rfl ?_
  refine i_bipush (n := 12) rfl (by unfold iR; omega) (by decide) ?_
  refine i_imul rfl (by unfold iR; omega) ?_
  refine i_iload_n rfl rfl ?_
  refine i_iadd rfl (by unfold iR; omega) ?_
  refine i_iald rfl rfl (by first | omega | assumption) (by first | omega | assumption) (by decide) ?_
  -- at 11
  rw [show ((s : Int) * 12 + (p : Int)).toNat = s * 12 + p by omega]
  exact i_ireturn rfl rfl
set_option maxRecDepth 100000 in
theorem ki_checkOf {M : iM} {s : Nat} (hs : s < 60) (hf : by8 (M 2) 720) (hm : ∀ x : Nat, x < 256 → M 3 x = hN 8 (x : Int)) : irun none zp_38 0 (i_ent [iP 1, iI (s : Int)] 4) [] SI M 0 0 (some (chk (M 2) s), SI, M) := by
  have loop : ∀ (n k : Nat), k + n = 11 → irun none zp_38 5 [some (iP 1), some (iI (s : Int)), some (iI (ck (M 2) s k)), some (iI (k : Int))] [] SI M 0 0 (some (chk (M 2) s), SI, M) := by
    intro n
    induction n with
    | zero =>
      intro k hk
      obtain rfl : k = 11 := by omega
      refine i_iload_n rfl rfl ?_
      refine i_bipush (n := 11) rfl (by unfold iR; omega) (by decide) ?_
      refine i_icmp_ge_t rfl (by first | omega | assumption) ?_
      refine i_iload_n rfl rfl ?_
      -- at 37
      exact i_ireturn rfl rfl
    | succ n ih =>
      intro k hk
      have hn := ih (k + 1) (by omega)
      have h1 := ck_b hf hs k (by omega)
      have h2 := hf (s * 12 + k) (by omega)
      have h3 := ix_b h1.1 h1.2 h2.1 h2.2
      have e1 : ((s : Int) * 12 + (k : Int)).toNat = s * 12 + k := by omega
      rw [← e1] at h2 h3
      have e : ck (M 2) s (k + 1) = M 3 (ix (ck (M 2) s k) (M 2 ((s : Int) * 12 + (k : Int)).toNat)).toNat := by
        rw [hm _ (by omega), Int.toNat_of_nonneg h3.1, e1]
        rfl
      rw [e] at hn
      refine i_iload_n rfl rfl ?_
      refine i_bipush (n := 11) rfl (by unfold iR; omega) (by decide) ?_
      refine i_icmp_ge_f rfl (by first | omega | assumption) ?_
      refine i_aload_n rfl rfl ?_
      refine i_getr rfl rfl rfl rfl (by decide) rfl ?_
      refine i_iload_n rfl rfl ?_
      refine i_aload_n rfl rfl ?_
      refine i_getr rfl rfl rfl rfl (by decide) rfl ?_
      refine i_iload_n rfl rfl ?_
      refine i_bipush (n := 12) rfl (by unfold iR; omega) (by decide) ?_
      refine i_imul rfl (by unfold iR; omega) ?_
      refine i_iload_n rfl rfl ?_
      refine i_iadd rfl (by unfold iR; omega) ?_
      refine i_iald rfl rfl (by first | omega | assumption) (by first | omega | assumption) (by decide) ?_
      refine i_ixor rfl (by first | omega | assumption) (by first | omega | assumption) ?_
      refine i_iald rfl rfl (by first | omega | assumption) (by first | omega | assumption) (by decide) ?_
      refine i_istore_n rfl (Nat.le_of_ble_eq_true rfl) rfl ?_
      refine i_iinc rfl rfl (by unfold iR; omega) (Nat.le_of_ble_eq_true rfl) rfl ?_
      refine i_goto rfl ?_
      -- at 5
      exact hn
  refine i_bipush (n := 90) rfl (by unfold iR; omega) (by decide) ?_
  refine i_istore_n rfl (Nat.le_of_ble_eq_true rfl) rfl ?_
  refine i_iconst (n := 0) rfl (by unfold iR; omega) ?_
  refine i_istore_n rfl (Nat.le_of_ble_eq_true rfl) rfl ?_
  -- at 5
  exact loop 11 0 rfl
set_option maxRecDepth 100000 in
theorem ki_seal {M : iM} {s : Nat} (hs : s < 60) (hf : by8 (M 2) 720) (hm : ∀ x : Nat, x < 256 → M 3 x = hN 8 (x : Int)) : irun none zp_39 0 (i_ent [iP 1, iI (s : Int)] 2) [] SI M 0 0 (none, SI, i_st M 2 (s * 12 + 11) (chk (M 2) s)) := by
  refine i_aload_n rfl rfl ?_
  refine i_getr rfl rfl rfl rfl (by decide) rfl ?_
  refine i_iload_n rfl rfl ?_
  refine i_bipush (n := 12) rfl (by unfold iR; omega) (by decide) ?_
  refine i_imul rfl (by unfold iR; omega) ?_
  refine i_bipush (n := 11) rfl (by unfold iR; omega) (by decide) ?_
  refine i_iadd rfl (by unfold iR; omega) ?_
  refine i_aload_n rfl rfl ?_
  refine i_iload_n rfl rfl ?_
  -- at 13
  refine i_call (T := (38, zp_38)) rfl rfl (ki_checkOf hs hf hm) rfl rfl rfl rfl rfl rfl rfl ?_
  try dsimp only
  refine i_iast rfl rfl (by first | omega | assumption) (by first | omega | assumption) ?_
  -- at 17
  rw [show ((s : Int) * 12 + 11).toNat = s * 12 + 11 by omega]
  exact i_vreturn rfl rfl
def im0 (n : Nat) (j : Nat) : Int := if j % 12 = 11 ∧ j < 12 * n then chk (fun _ => 0) 0 else 0
theorem ck_z {f : Nat → Int} {s : Nat} (h : ∀ i, i < 11 → f (s * 12 + i) = 0) : ∀ k, k ≤ 11 → ck f s k = ck (fun _ => 0) 0 k := by
  intro k
  induction k with
  | zero => intro _; rfl
  | succ k ih =>
    intro hk
    show hN 8 (ix (ck f s k) (f (s * 12 + k))) = hN 8 (ix (ck (fun _ => 0) 0 k) 0)
    rw [ih (by omega), h k (by omega)]
theorem im0_b (n : Nat) : by8 (im0 n) 720 := by
  have h := chk_b (f := fun _ => 0) (s := 0) (fun j hj => (show (0 : Int) ≤ 0 ∧ (0 : Int) < 256 by decide)) (by omega)
  intro j hj
  unfold im0
  split
  · exact h
  · omega
set_option maxRecDepth 100000 in
theorem k_image {M : iM} (h : M 1 = fun _ => 0) : ∃ M', irun none zp_28 0 (i_ent [iP 1] 2) [] [(0, 0, [none, none, none, none, none, none, none, none, none, none, none]), (0, 1, [none, none, none, none, none, none])] M 0 0 (none, SI, M') ∧ M' 0 = M 0 ∧ M' 1 = va_up (fun _ => 0) 3 (-1) ∧ M' 2 = im0 60 ∧ (∀ x : Nat, x < 256 → M' 3 x = hN 8 (x : Int)) ∧ M' 4 = fun _ => 0 := by
  obtain ⟨N, eN⟩ : ∃ N, N = i_st (i_st (i_st (va_up (va_up (va_up (M) 2 (fun _ => 0)) 3 (fun _ => 0)) 4 (fun _ => 0)) 1 3 (-1)) 1 4 (0)) 1 5 (0) := ⟨_, rfl⟩
  have n0 : N 0 = M 0 := by rw [eN]; rfl
  have n1 : N 1 = va_up (fun _ => 0) 3 (-1) := by
    rw [eN]
    show va_up (va_up (va_up (M 1) 3 (-1)) 4 0) 5 0 = _
    rw [h]
    funext j
    by_cases j5 : j = 5
    · rw [j5]; rfl
    · rw [up_n j5]
      by_cases j4 : j = 4
      · rw [j4]; rfl
      · rw [up_n j4]
  have n2 : N 2 = fun _ => 0 := by rw [eN]; rfl
  have n3 : N 3 = fun _ => 0 := by rw [eN]; rfl
  have n4 : N 4 = fun _ => 0 := by rw [eN]; rfl
  have loop1 : ∀ q, irun none zp_28 70 [some (iP 1), some (iI ((256 : Nat) : Int))] [] SI (va_up N 3 (fun j => if j < 256 then hN 8 (j : Int) else N 3 j)) 3 987 q → ∀ (d k : Nat), k + d = 256 → irun none zp_28 47 [some (iP 1), some (iI (k : Int))] [] SI (va_up N 3 (fun j => if j < k then hN 8 (j : Int) else N 3 j)) 3 987 q := by
    intro q hq d
    induction d with
    | zero =>
      intro k hk
      obtain rfl : k = 256 := by omega
      refine i_iload_n rfl rfl ?_
      refine i_sipush (n := 256) rfl (by unfold iR; omega) (by decide) ?_
      refine i_icmp_ge_t rfl (by first | omega | assumption) ?_
      -- at 70
      exact hq
    | succ d ih =>
      intro k hk
      have g := ih (k + 1) (by omega)
      rw [← fill_s (F := fun j => hN 8 (j : Int))] at g
      have mx := c_mix (sh := SI) (M := va_up N 3 (fun j => if j < k then hN 8 (j : Int) else N 3 j)) (x := (k : Int)) (by omega) (by omega)
      refine i_iload_n rfl rfl ?_
      refine i_sipush (n := 256) rfl (by unfold iR; omega) (by decide) ?_
      refine i_icmp_ge_f rfl (by first | omega | assumption) ?_
      refine i_aload_n rfl rfl ?_
      refine i_getr rfl rfl rfl rfl (by decide) rfl ?_
      refine i_iload_n rfl rfl ?_
      refine i_iload_n rfl rfl ?_
      -- at 60
      refine i_call (T := (29, zp_29)) rfl rfl (mx) rfl rfl rfl rfl rfl rfl rfl ?_
      try dsimp only
      show irun none zp_28 63 _ (iI (hN 8 (k : Int)) :: _) _ _ _ _ _
      refine i_iast rfl rfl (by first | omega | assumption) (by first | omega | assumption) ?_
      refine i_iinc rfl rfl (by unfold iR; omega) (Nat.le_of_ble_eq_true rfl) rfl ?_
      refine i_goto rfl ?_
      -- at 47
      rw [show (k : Int).toNat = k by omega]
      exact g
  obtain ⟨T, eT⟩ : ∃ T, T = va_up N 3 (fun j => if j < 256 then hN 8 (j : Int) else N 3 j) := ⟨_, rfl⟩
  have t3 : ∀ x : Nat, x < 256 → T 3 x = hN 8 (x : Int) := by
    intro x hx
    rw [eT, up_s, if_pos hx]
  have fT : Fr [3] N T := by rw [eT]; exact Fr_up (Fr_r _ _) (by decide)
  have loop2 : ∀ (d s : Nat) (M1 : iM), s + d = 60 → Fr [2] T M1 → M1 2 = im0 s → ∃ M', irun none zp_28 72 [some (iP 1), some (iI (s : Int))] [] SI M1 3 987 (none, SI, M') ∧ Fr [2] T M' ∧ M' 2 = im0 60 := by
    intro d
    induction d with
    | zero =>
      intro s M1 hs fr e
      obtain rfl : s = 60 := by omega
      refine ⟨M1, ?_, fr, e⟩
      refine i_iload_n rfl rfl ?_
      refine i_bipush (n := 60) rfl (by unfold iR; omega) (by decide) ?_
      refine i_icmp_ge_t rfl (by first | omega | assumption) ?_
      -- at 89
      exact i_vreturn rfl rfl
    | succ d ih =>
      intro s M1 hs fr e
      have sl := ki_seal (M := M1) (s := s) (by omega) (by rw [e]; exact im0_b s) (by rw [fr 3 (by decide)]; exact t3)
      have ec : chk (M1 2) s = chk (fun _ => 0) 0 := ck_z (fun i hi => by
        rw [e]
        unfold im0
        rw [if_neg (by omega)]) 11 (Nat.le_refl _)
      rw [ec] at sl
      obtain ⟨M', k1, k2⟩ := ih (s + 1) (i_st M1 2 (s * 12 + 11) (chk (fun _ => 0) 0)) (by omega) (Fr_st fr (by decide)) (by
        show va_up (M1 2) (s * 12 + 11) _ = _
        rw [e]
        funext j
        unfold im0
        by_cases z : j = s * 12 + 11
        · rw [z, up_s, if_pos (by omega)]
        · rw [up_n z]
          by_cases z2 : j % 12 = 11 ∧ j < 12 * s
          · rw [if_pos z2, if_pos (by omega)]
          · rw [if_neg z2, if_neg (by omega)])
      refine ⟨M', ?_, k2⟩
      refine i_iload_n rfl rfl ?_
      refine i_bipush (n := 60) rfl (by unfold iR; omega) (by decide) ?_
      refine i_icmp_ge_f rfl (by first | omega | assumption) ?_
      refine i_aload_n rfl rfl ?_
      refine i_iload_n rfl rfl ?_
      -- at 80
      refine i_call (T := (39, zp_39)) rfl rfl (sl) rfl rfl rfl rfl rfl rfl rfl ?_
      try dsimp only
      refine i_iinc rfl rfl (by unfold iR; omega) (Nat.le_of_ble_eq_true rfl) rfl ?_
      refine i_goto rfl ?_
      -- at 72
      exact k1
  obtain ⟨M', l1, l2, l3⟩ := loop2 60 0 T (by omega) (Fr_r _ _) (by
    rw [fT 2 (by decide), n2]
    funext j
    unfold im0
    rw [if_neg (by omega)])
  refine ⟨M', ?_, by rw [l2 0 (by decide), fT 0 (by decide), n0], by rw [l2 1 (by decide), fT 1 (by decide), n1], l3, by rw [l2 3 (by decide)]; exact t3, by rw [l2 4 (by decide), fT 4 (by decide), n4]⟩
  refine i_aload_n rfl rfl ?_
  refine i_oinit rfl rfl (Nat.le_of_ble_eq_true rfl) ?_
  refine i_aload_n rfl rfl ?_
  refine i_sipush (n := 720) rfl (by unfold iR; omega) (by decide) ?_
  refine i_newi (n := 720) rfl rfl (by decide) rfl rfl (by decide) (by decide) (by decide) ?_
  show irun none zp_28 10 _ [iP 2, iP 1] [(0, 0, [none, none, none, none, none, none, none, none, none, none, none]), (0, 1, [none, none, none, none, none, none]), (1, 720, [])] (va_up (M) 2 (fun _ => 0)) 1 720 _
  refine i_putR rfl rfl rfl rfl (Nat.le_of_ble_eq_true rfl) ?_
  show irun none zp_28 13 _ [] [(0, 0, [none, none, none, none, none, none, none, none, none, none, none]), (0, 1, [some 2, none, none, none, none, none]), (1, 720, [])] (va_up (M) 2 (fun _ => 0)) 1 720 _
  refine i_aload_n rfl rfl ?_
  refine i_sipush (n := 256) rfl (by unfold iR; omega) (by decide) ?_
  refine i_newi (n := 256) rfl rfl (by decide) rfl rfl (by decide) (by decide) (by decide) ?_
  show irun none zp_28 19 _ [iP 3, iP 1] [(0, 0, [none, none, none, none, none, none, none, none, none, none, none]), (0, 1, [some 2, none, none, none, none, none]), (1, 720, []), (1, 256, [])] (va_up (va_up (M) 2 (fun _ => 0)) 3 (fun _ => 0)) 2 976 _
  refine i_putR rfl rfl rfl rfl (Nat.le_of_ble_eq_true rfl) ?_
  show irun none zp_28 22 _ [] [(0, 0, [none, none, none, none, none, none, none, none, none, none, none]), (0, 1, [some 2, some 3, none, none, none, none]), (1, 720, []), (1, 256, [])] (va_up (va_up (M) 2 (fun _ => 0)) 3 (fun _ => 0)) 2 976 _
  refine i_aload_n rfl rfl ?_
  refine i_bipush (n := 11) rfl (by unfold iR; omega) (by decide) ?_
  refine i_newi (n := 11) rfl rfl (by decide) rfl rfl (by decide) (by decide) (by decide) ?_
  show irun none zp_28 27 _ [iP 4, iP 1] [(0, 0, [none, none, none, none, none, none, none, none, none, none, none]), (0, 1, [some 2, some 3, none, none, none, none]), (1, 720, []), (1, 256, []), (1, 11, [])] (va_up (va_up (va_up (M) 2 (fun _ => 0)) 3 (fun _ => 0)) 4 (fun _ => 0)) 3 987 _
  refine i_putR rfl rfl rfl rfl (Nat.le_of_ble_eq_true rfl) ?_
  show irun none zp_28 30 _ [] [(0, 0, [none, none, none, none, none, none, none, none, none, none, none]), (0, 1, [some 2, some 3, some 4, none, none, none]), (1, 720, []), (1, 256, []), (1, 11, [])] (va_up (va_up (va_up (M) 2 (fun _ => 0)) 3 (fun _ => 0)) 4 (fun _ => 0)) 3 987 _
  refine i_aload_n rfl rfl ?_
  refine i_iconst (n := -1) rfl (by unfold iR; omega) ?_
  refine i_puti rfl rfl rfl rfl ?_
  refine i_aload_n rfl rfl ?_
  refine i_iconst (n := 0) rfl (by unfold iR; omega) ?_
  refine i_putz rfl rfl rfl rfl (by first | omega | assumption) ?_
  refine i_aload_n rfl rfl ?_
  refine i_iconst (n := 0) rfl (by unfold iR; omega) ?_
  refine i_puti rfl rfl rfl rfl ?_
  refine i_iconst (n := 0) rfl (by unfold iR; omega) ?_
  refine i_istore_n rfl (Nat.le_of_ble_eq_true rfl) rfl ?_
  -- at 47
  rw [← eN]
  have lp := loop1 (none, SI, M') (by
    rw [← eT]
    refine i_iconst (n := 0) rfl (by unfold iR; omega) ?_
    refine i_istore_n rfl (Nat.le_of_ble_eq_true rfl) rfl ?_
    -- at 72
    exact l1) 256 0 (by omega)
  rw [fill_0 (F := fun j => hN 8 (j : Int))] at lp
  exact lp
