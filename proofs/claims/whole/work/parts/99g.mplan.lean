/-- the reference's cells against what a commit starts from -/
abbrev RT (M0 M : iM) (p c a n : Nat) : Prop := (M 42 0 = (c : Int)) ∧ (∀ j, j < 7 * c → M 42 (1 + j) = M0 (p + 1) j) ∧ (M 40 6 = M0 p 3) ∧ (M 40 7 = M0 p 4) ∧ (M 40 8 = M0 p 2) ∧ (M 40 9 = M0 0 8) ∧ (M 40 13 = (a : Int)) ∧ (M 40 14 = (n : Int)) ∧ (M 40 15 = sm (M0 10) c) ∧ (∀ k, k < 8 → M 44 k = M0 32 k) ∧ (∀ k, k < a → M 46 k = M0 8 k) ∧ (∀ k, k < a → M 47 k = M0 9 k) ∧ (∀ k, k < n → M 48 k = M0 7 k) ∧ (∀ k, k < 10 → M 49 k = M0 10 k)
theorem RT.r0 {M0 M : iM} {p c a n : Nat} (h : RT M0 M p c a n) : M 42 0 = (c : Int) := h.1
theorem RT.rw {M0 M : iM} {p c a n : Nat} (h : RT M0 M p c a n) : ∀ j, j < 7 * c → M 42 (1 + j) = M0 (p + 1) j := h.2.1
theorem RT.r6 {M0 M : iM} {p c a n : Nat} (h : RT M0 M p c a n) : M 40 6 = M0 p 3 := h.2.2.1
theorem RT.r7 {M0 M : iM} {p c a n : Nat} (h : RT M0 M p c a n) : M 40 7 = M0 p 4 := h.2.2.2.1
theorem RT.r8 {M0 M : iM} {p c a n : Nat} (h : RT M0 M p c a n) : M 40 8 = M0 p 2 := h.2.2.2.2.1
theorem RT.r9 {M0 M : iM} {p c a n : Nat} (h : RT M0 M p c a n) : M 40 9 = M0 0 8 := h.2.2.2.2.2.1
theorem RT.r13 {M0 M : iM} {p c a n : Nat} (h : RT M0 M p c a n) : M 40 13 = (a : Int) := h.2.2.2.2.2.2.1
theorem RT.r14 {M0 M : iM} {p c a n : Nat} (h : RT M0 M p c a n) : M 40 14 = (n : Int) := h.2.2.2.2.2.2.2.1
theorem RT.r15 {M0 M : iM} {p c a n : Nat} (h : RT M0 M p c a n) : M 40 15 = sm (M0 10) c := h.2.2.2.2.2.2.2.2.1
theorem RT.r44 {M0 M : iM} {p c a n : Nat} (h : RT M0 M p c a n) : ∀ k, k < 8 → M 44 k = M0 32 k := h.2.2.2.2.2.2.2.2.2.1
theorem RT.r46 {M0 M : iM} {p c a n : Nat} (h : RT M0 M p c a n) : ∀ k, k < a → M 46 k = M0 8 k := h.2.2.2.2.2.2.2.2.2.2.1
theorem RT.r47 {M0 M : iM} {p c a n : Nat} (h : RT M0 M p c a n) : ∀ k, k < a → M 47 k = M0 9 k := h.2.2.2.2.2.2.2.2.2.2.2.1
theorem RT.r48 {M0 M : iM} {p c a n : Nat} (h : RT M0 M p c a n) : ∀ k, k < n → M 48 k = M0 7 k := h.2.2.2.2.2.2.2.2.2.2.2.2.1
theorem RT.r49 {M0 M : iM} {p c a n : Nat} (h : RT M0 M p c a n) : ∀ k, k < 10 → M 49 k = M0 10 k := h.2.2.2.2.2.2.2.2.2.2.2.2.2
def FM : List Nat := [40, 43, 50, 53, 54, 55, 56, 57, 58, 59]
def GM (M M' : iM) : Prop := ∀ k, k ≠ 20 → k ≠ 21 → k ≠ 25 → k ≠ 26 → M' 40 k = M 40 k
theorem GM_r (M : iM) : GM M M := fun _ _ _ _ _ => rfl
abbrev Qd (M0 M' : iM) (p : Nat) : Prop := (M' 43 0 = (pN M0 p : Int)) ∧ (∀ j, j < 7 * pN M0 p → M' 43 (1 + j) = (pL M0 p (aN M0)).2 j) ∧ (0 < aN M0 → M' 50 0 = ((chs (M0 7) (M0 5 7).toNat 4).1 : Int) ∧ M' 50 1 = M0 5 7 ∧ M' 50 2 = ((chs (M0 7) (M0 5 7).toNat 4).2 : Int) ∧ ∀ k, k < 125 → M' 50 (3 + k) = pk (eN (M0 7) (M0 5 7).toNat (chs (M0 7) (M0 5 7).toNat 4).1) k)
theorem Qd.h0 {M0 M' : iM} {p : Nat} (h : Qd M0 M' p) : M' 43 0 = (pN M0 p : Int) := h.1
theorem Qd.hw {M0 M' : iM} {p : Nat} (h : Qd M0 M' p) : ∀ j, j < 7 * pN M0 p → M' 43 (1 + j) = (pL M0 p (aN M0)).2 j := h.2.1
theorem Qd.hb {M0 M' : iM} {p : Nat} (h : Qd M0 M' p) : 0 < aN M0 → M' 50 0 = ((chs (M0 7) (M0 5 7).toNat 4).1 : Int) ∧ M' 50 1 = M0 5 7 ∧ M' 50 2 = ((chs (M0 7) (M0 5 7).toNat 4).2 : Int) ∧ ∀ k, k < 125 → M' 50 (3 + k) = pk (eN (M0 7) (M0 5 7).toNat (chs (M0 7) (M0 5 7).toNat 4).1) k := h.2.2
theorem RT_m {M0 M M' : iM} {p c a n : Nat} (r : RT M0 M p c a n) (f : Fr FM M M') (g : GM M M') : RT M0 M' p c a n := by
  refine ⟨?_, ?_, ?_, ?_, ?_, ?_, ?_, ?_, ?_, ?_, ?_, ?_, ?_, ?_⟩
  · rw [f 42 (by decide)]; exact r.r0
  · rw [f 42 (by decide)]; exact r.rw
  · rw [g 6 (by decide) (by decide) (by decide) (by decide)]; exact r.r6
  · rw [g 7 (by decide) (by decide) (by decide) (by decide)]; exact r.r7
  · rw [g 8 (by decide) (by decide) (by decide) (by decide)]; exact r.r8
  · rw [g 9 (by decide) (by decide) (by decide) (by decide)]; exact r.r9
  · rw [g 13 (by decide) (by decide) (by decide) (by decide)]; exact r.r13
  · rw [g 14 (by decide) (by decide) (by decide) (by decide)]; exact r.r14
  · rw [g 15 (by decide) (by decide) (by decide) (by decide)]; exact r.r15
  · rw [f 44 (by decide)]; exact r.r44
  · rw [f 46 (by decide)]; exact r.r46
  · rw [f 47 (by decide)]; exact r.r47
  · rw [f 48 (by decide)]; exact r.r48
  · rw [f 49 (by decide)]; exact r.r49
set_option maxRecDepth 100000 in
theorem d_rm {b : Bool} {M0 M : iM} {p c a n : Nat} {m x y : Int} (h : CP M0 p c a n) (r : RT M0 M p c a n) (hm : 0 ≤ m ∧ m ≤ 1000) : irun none zp_150 0 (i_ent [iP 40, iI m, iI x, iI y] 6) [] (SH b) M 0 0 (some (fpl (fun s => oM M0 p c s ∨ (x ≤ s ∧ s < y)) m 46 2 0), SH b, M) := by
  have q := d_room (b := b) (n := m) (x := x) (y := y) r.r0 h.h10 (by rw [r.r6]; have := h.h3; omega) (by rw [r.r7]; have := h.h4; omega) r.rw (CP_oB h).2.2.2.2 hm
  rw [r.r6, r.r7] at q
  exact q
set_option maxRecDepth 100000 in
theorem d_planA {b : Bool} {M0 M : iM} {p c a n : Nat} (h : CP M0 p c a n) (r : RT M0 M p c a n) : ∃ M', (∀ q, irun none zp_152 116 [some (iP 40), some (iI (tN M0)), some (iI (sE M0 : Int)), some (iI (fI M0 p)), none, none, none, none] [] (SH b) M' 0 0 q → irun none zp_152 48 [some (iP 40), none, none, none, none, none, none, none] [] (SH b) M 0 0 q) ∧ Fr FM M M' ∧ GM M M' ∧ (0 < a → M' 50 0 = ((chs (M0 7) n 4).1 : Int) ∧ M' 50 1 = M0 5 7 ∧ M' 50 2 = ((chs (M0 7) n 4).2 : Int) ∧ ∀ k, k < 125 → M' 50 (3 + k) = pk (eN (M0 7) n (chs (M0 7) n 4).1) k) := by
  have n96 := CP_n h
  have ea : aN M0 = a := by unfold aN; rw [h.ha]; rfl
  have en : (M0 5 7).toNat = n := by rw [h.hn]; rfl
  have ec : (M0 p 1).toNat = c := by rw [h.hc]; rfl
  have h9 := r.r9
  have ht := h.ht
  have h13 := r.r13
  have tm : ∀ q, irun none zp_152 70 [some (iP 40), none, none, none, none, none, none, none] [iI (tN M0)] (SH b) M 0 0 q → irun none zp_152 48 [some (iP 40), none, none, none, none, none, none, none] [] (SH b) M 0 0 q := by
    intro q hq
    unfold tN at hq
    by_cases e : M0 0 8 < 127
    · rw [if_pos e] at hq
      refine i_aload_n rfl rfl ?_
      refine i_getf rfl rfl rfl rfl (by decide) ?_
      -- at 52
      rw [h9]
      refine i_bipush (n := 127) rfl (by unfold iR; omega) (by decide) ?_
      refine i_icmp_ge_f rfl (by first | omega | assumption) ?_
      refine i_aload_n rfl rfl ?_
      refine i_getf rfl rfl rfl rfl (by decide) ?_
      -- at 61
      rw [h9]
      refine i_iconst (n := 1) rfl (by unfold iR; omega) ?_
      refine i_iadd rfl (by unfold iR; omega) ?_
      refine i_goto rfl ?_
      -- at 70
      exact hq
    · rw [if_neg e] at hq
      refine i_aload_n rfl rfl ?_
      refine i_getf rfl rfl rfl rfl (by decide) ?_
      -- at 52
      rw [h9]
      refine i_bipush (n := 127) rfl (by unfold iR; omega) (by decide) ?_
      refine i_icmp_ge_t rfl (by first | omega | assumption) ?_
      refine i_aload_n rfl rfl ?_
      refine i_getf rfl rfl rfl rfl (by decide) ?_
      -- at 70
      rw [h9]
      exact hq
  have g1 : GM M (i_st M 40 25 0) := fun k k1 k2 k3 k4 => by
    show va_up (M 40) 25 0 k = _
    rw [up_n k3]
  by_cases a0 : a = 0
  · have s0 : sE M0 = 0 := by unfold sE; rw [if_pos (by omega)]
    have f0 : fI M0 p = 0 := by unfold fI; rw [if_pos (by omega)]
    refine ⟨i_st M 40 25 0, fun q hq => tm q ?_, Fr_st (Fr_r _ _) (by decide), g1, fun z => by omega⟩
    rw [s0, f0] at hq
    refine i_istore_n rfl (Nat.le_of_ble_eq_true rfl) rfl ?_
    refine i_aload_n rfl rfl ?_
    refine i_iconst (n := 0) rfl (by unfold iR; omega) ?_
    refine i_puti rfl rfl rfl rfl ?_
    refine i_aload_n rfl rfl ?_
    refine i_getf rfl rfl rfl rfl (by decide) ?_
    -- at 80
    show irun none zp_152 80 _ (iI (M 40 13) :: _) _ _ 0 0 _
    rw [h13]
    refine i_if_le_t rfl (by first | omega | assumption) ?_
    refine i_aload_n rfl rfl ?_
    refine i_getf rfl rfl rfl rfl (by decide) ?_
    -- at 91
    show irun none zp_152 91 _ (iI 0 :: _) _ _ 0 0 _
    refine i_bipush (n := 11) rfl (by unfold iR; omega) (by decide) ?_
    refine i_iadd rfl (by unfold iR; omega) ?_
    refine i_iconst (n := 1) rfl (by unfold iR; omega) ?_
    refine i_isub rfl (by unfold iR; omega) ?_
    refine i_bipush (n := 11) rfl (by unfold iR; omega) (by decide) ?_
    refine i_idiv rfl (by first | omega | assumption) (by first | omega | assumption) ?_
    -- at 99
    show irun none zp_152 99 _ (iI 0 :: _) _ _ 0 0 _
    refine i_istore_n rfl (Nat.le_of_ble_eq_true rfl) rfl ?_
    refine i_iload_n rfl rfl ?_
    refine i_if_le_t rfl (by first | omega | assumption) ?_
    refine i_iconst (n := 0) rfl (by unfold iR; omega) ?_
    refine i_istore_n rfl (Nat.le_of_ble_eq_true rfl) rfl ?_
    -- at 116
    exact hq
  · obtain ⟨M2, b1, b2, b3, b4, b5, b6, b7, b8⟩ := d_block (b := b) (M := i_st M 40 25 0) (S := M0 7) (n := n) r.r14 n96 (fun j hj => ⟨r.r48 j hj, h.hY j hj⟩)
    have f2 : Fr FM M M2 := Fr_t (Fr_st (Fr_r _ _) (by decide)) b2 (by decide)
    have g2 : GM M M2 := fun k k1 k2 k3 k4 => by rw [b3 k k1 k2 k3 k4]; exact g1 k k1 k2 k3 k4
    have ez : M2 40 25 = (zB M0 : Int) := by
      rw [b8]
      unfold zB
      rw [en]
      omega
    have hzb : zB M0 ≤ 99 := by
      unfold zB
      rw [en]
      have := (chs_b (S := M0 7) n96 3).1
      have this : (chs (M0 7) n 4).2 ≤ n := this
      omega
    have es : sE M0 = (zB M0 + 10) / 11 := by unfold sE; rw [if_neg (by omega)]
    have z3 : 3 ≤ zB M0 := by unfold zB; omega
    have rm := d_rm (b := b) (m := (sE M0 : Int)) (x := 0) (y := 0) h (RT_m r f2 g2) (by omega)
    have ef : fpl (fun s => oM M0 p c s ∨ ((0 : Int) ≤ s ∧ s < 0)) (sE M0 : Int) 46 2 0 = fI M0 p := by
      unfold fI
      rw [if_neg (by omega), ec]
      exact fpl_c 46 2 0 (fun x _ _ => ⟨fun z => z.elim id (fun z => by omega), Or.inl⟩)
    rw [ef] at rm
    refine ⟨M2, fun q hq => tm q ?_, f2, g2, fun _ => ⟨b4, by rw [h.hn]; exact b5, b6, b7⟩⟩
    refine i_istore_n rfl (Nat.le_of_ble_eq_true rfl) rfl ?_
    refine i_aload_n rfl rfl ?_
    refine i_iconst (n := 0) rfl (by unfold iR; omega) ?_
    refine i_puti rfl rfl rfl rfl ?_
    refine i_aload_n rfl rfl ?_
    refine i_getf rfl rfl rfl rfl (by decide) ?_
    -- at 80
    show irun none zp_152 80 _ (iI (M 40 13) :: _) _ _ 0 0 _
    rw [h13]
    refine i_if_le_f rfl (by first | omega | assumption) ?_
    refine i_aload_n rfl rfl ?_
    -- at 84
    refine i_call (T := (130, zp_130)) rfl rfl (b1) rfl rfl rfl rfl rfl rfl rfl ?_
    try dsimp only
    refine i_aload_n rfl rfl ?_
    refine i_getf rfl rfl rfl rfl (by decide) ?_
    -- at 91
    rw [ez]
    refine i_bipush (n := 11) rfl (by unfold iR; omega) (by decide) ?_
    refine i_iadd rfl (by unfold iR; omega) ?_
    refine i_iconst (n := 1) rfl (by unfold iR; omega) ?_
    refine i_isub rfl (by unfold iR; omega) ?_
    refine i_bipush (n := 11) rfl (by unfold iR; omega) (by decide) ?_
    refine i_idiv rfl (by first | omega | assumption) (by first | omega | assumption) ?_
    -- at 99
    rw [show ((zB M0 : Int) + 11 - 1) / 11 = (sE M0 : Int) by rw [es]; omega]
    refine i_istore_n rfl (Nat.le_of_ble_eq_true rfl) rfl ?_
    refine i_iload_n rfl rfl ?_
    refine i_if_le_f rfl (by first | omega | assumption) ?_
    refine i_aload_n rfl rfl ?_
    refine i_iload_n rfl rfl ?_
    refine i_iconst (n := 0) rfl (by unfold iR; omega) ?_
    refine i_iconst (n := 0) rfl (by unfold iR; omega) ?_
    -- at 108
    refine i_call (T := (150, zp_150)) rfl rfl (rm) rfl rfl rfl rfl rfl rfl rfl ?_
    try dsimp only
    show irun none zp_152 111 _ (iI (fI M0 p) :: _) _ _ 0 0 _
    refine i_goto rfl ?_
    refine i_istore_n rfl (Nat.le_of_ble_eq_true rfl) rfl ?_
    -- at 116
    exact hq
set_option maxRecDepth 100000 in
theorem d_planB {b : Bool} {M0 M : iM} {p c a n : Nat} {x1 x2 x3 : Int} (h : CP M0 p c a n) (r : RT M0 M p c a n) : ∃ M' y, (∀ q, irun none zp_152 235 [some (iP 40), some (iI x1), some (iI x2), some (iI x3), some (iI (c : Int)), y, none, none] [] (SH b) M' 0 0 q → irun none zp_152 123 [some (iP 40), some (iI x1), some (iI x2), some (iI x3), none, none, none, none] [] (SH b) M 0 0 q) ∧ Fr [43] M M' ∧ M' 43 0 = ((kK M0 p).1 : Int) ∧ (∀ j, j < 7 * (kK M0 p).1 → M' 43 (1 + j) = (kK M0 p).2 j) := by
  have h10 := h.h10
  have ec : (M0 p 1).toNat = c := by rw [h.hc]; rfl
  have ek : kK M0 p = kpN (M0 10) (M0 (p + 1)) c := by unfold kK; rw [ec]
  rw [ek]
  generalize eG : M0 10 = G
  generalize eW : M0 (p + 1) = W
  have hS := h.hS
  rw [eW] at hS
  have hw := r.rw
  rw [eW] at hw
  have hG := h.hG
  rw [eG] at hG
  have h49 := r.r49
  rw [eG] at h49
  have loop : ∀ (d k : Nat) (M1 : iM) (y : Option iV), k + d = c → Fr [43] M M1 → M1 43 0 = ((kpN G W k).1 : Int) → (∀ j, j < 7 * (kpN G W k).1 → M1 43 (1 + j) = (kpN G W k).2 j) → ∃ M' y', (∀ q, irun none zp_152 235 [some (iP 40), some (iI x1), some (iI x2), some (iI x3), some (iI (c : Int)), y', none, none] [] (SH b) M' 0 0 q → irun none zp_152 133 [some (iP 40), some (iI x1), some (iI x2), some (iI x3), some (iI (k : Int)), y, none, none] [] (SH b) M1 0 0 q) ∧ Fr [43] M M' ∧ M' 43 0 = ((kpN G W c).1 : Int) ∧ (∀ j, j < 7 * (kpN G W c).1 → M' 43 (1 + j) = (kpN G W c).2 j) := by
    intro d
    induction d with
    | zero =>
      intro k M1 y hk fr m1 mw
      obtain rfl : k = c := by omega
      have c1 : M1 42 0 = (k : Int) := by rw [fr 42 (by decide)]; exact r.r0
      refine ⟨M1, y, fun q hq => ?_, fr, m1, mw⟩
      refine i_iload rfl rfl ?_
      refine i_aload_n rfl rfl ?_
      refine i_getr rfl rfl rfl rfl (by decide) rfl ?_
      refine i_iconst (n := 0) rfl (by unfold iR; omega) ?_
      refine i_iald rfl rfl (by first | omega | assumption) (by first | omega | assumption) (by decide) ?_
      -- at 141
      show irun none zp_152 141 _ (iI (M1 42 0) :: _) _ _ 0 0 _
      rw [c1]
      refine i_icmp_ge_t rfl (by first | omega | assumption) ?_
      -- at 235
      exact hq
    | succ d ih =>
      intro k M1 y hk fr m1 mw
      have c1 : M1 42 0 = (c : Int) := by rw [fr 42 (by decide)]; exact r.r0
      have g49 : M1 49 k = G k := by rw [fr 49 (by decide)]; exact h49 k (by omega)
      have kb := (kp_ok (G := G) hS k (by omega)).1
      have w42 : ∀ u, u < 7 → M1 42 (1 + 7 * k + u) = W (7 * k + u) := fun u hu => by
        rw [fr 42 (by decide), show 1 + 7 * k + u = 1 + (7 * k + u) by omega]
        exact hw _ (by omega)
      rcases hG k (by omega) with g | g
      · have ekk : kpN G W (k + 1) = ((kpN G W k).1 + 1, fun j => if j < 7 * (kpN G W k).1 then (kpN G W k).2 j else W (7 * k + (j - 7 * (kpN G W k).1))) := by
          show (if G k = 0 then _ else _) = _
          rw [if_pos g]
        obtain ⟨e1, e2⟩ := kp_end (G := G) hS (show k < c by omega)
        obtain ⟨M2, a1, a2, a3, a4⟩ := d_enter (b := b) (M := M1) (E0 := W (7 * k)) (E1 := W (7 * k + 1)) (E2 := W (7 * k + 2)) (E3 := W (7 * k + 3)) (E4 := W (7 * k + 4)) (E5 := W (7 * k + 5)) (E6 := W (7 * k + 6)) m1 (by omega) mw e2
        rw [e1] at a4
        obtain ⟨M3, y', k1, k2⟩ := ih (k + 1) M2 (some (iI (1 + 7 * (k : Int)))) (by omega) (Fr_t fr a2 (by decide)) (by rw [ekk]; exact a3) (fun j hj => by
          rw [ekk] at hj ⊢
          rw [a4 j hj]
          show insW _ _ _ j = if j < 7 * (kpN G W k).1 then (kpN G W k).2 j else W (7 * k + (j - 7 * (kpN G W k).1))
          have hj : j < 7 * ((kpN G W k).1 + 1) := hj
          unfold insW
          by_cases e : j < 7 * (kpN G W k).1
          · rw [if_pos e, if_pos e]
          · rw [if_neg e, if_neg e, if_pos (by omega)]
            unfold e7
            rcases (show j - 7 * (kpN G W k).1 = 0 ∨ j - 7 * (kpN G W k).1 = 1 ∨ j - 7 * (kpN G W k).1 = 2 ∨ j - 7 * (kpN G W k).1 = 3 ∨ j - 7 * (kpN G W k).1 = 4 ∨ j - 7 * (kpN G W k).1 = 5 ∨ j - 7 * (kpN G W k).1 = 6 by omega) with z | z | z | z | z | z | z <;> rw [z] <;> rfl)
        refine ⟨M3, y', fun q hq => ?_, k2⟩
        have k1 := k1 q hq
        refine i_iload rfl rfl ?_
        refine i_aload_n rfl rfl ?_
        refine i_getr rfl rfl rfl rfl (by decide) rfl ?_
        refine i_iconst (n := 0) rfl (by unfold iR; omega) ?_
        refine i_iald rfl rfl (by first | omega | assumption) (by first | omega | assumption) (by decide) ?_
        -- at 141
        show irun none zp_152 141 _ (iI (M1 42 0) :: _) _ _ 0 0 _
        rw [c1]
        refine i_icmp_ge_f rfl (by first | omega | assumption) ?_
        refine i_iconst (n := 1) rfl (by unfold iR; omega) ?_
        refine i_bipush (n := 7) rfl (by unfold iR; omega) (by decide) ?_
        refine i_iload rfl rfl ?_
        refine i_imul rfl (by unfold iR; omega) ?_
        refine i_iadd rfl (by unfold iR; omega) ?_
        refine i_istore rfl (Nat.le_of_ble_eq_true rfl) rfl ?_
        refine i_aload_n rfl rfl ?_
        refine i_getr rfl rfl rfl rfl (by decide) rfl ?_
        refine i_iload rfl rfl ?_
        refine i_bald rfl rfl (by first | omega | assumption) (by first | omega | assumption) ?_
        -- at 160
        rw [show (k : Int).toNat = k by omega, g49, g]
        refine i_if_ne_f rfl (by first | omega | assumption) ?_
        refine i_aload_n rfl rfl ?_
        refine i_aload_n rfl rfl ?_
        refine i_getr rfl rfl rfl rfl (by decide) rfl ?_
        refine i_iload rfl rfl ?_
        refine i_iald rfl rfl (by first | omega | assumption) (by first | omega | assumption) (by decide) ?_
        -- at 171
        rw [show (1 + 7 * (k : Int)).toNat = 1 + 7 * k + 0 by omega, w42 0 (by omega)]
        refine i_aload_n rfl rfl ?_
        refine i_getr rfl rfl rfl rfl (by decide) rfl ?_
        refine i_iload rfl rfl ?_
        refine i_iconst (n := 1) rfl (by unfold iR; omega) ?_
        refine i_iadd rfl (by unfold iR; omega) ?_
        refine i_iald rfl rfl (by first | omega | assumption) (by first | omega | assumption) (by decide) ?_
        -- at 180
        rw [show (1 + 7 * (k : Int) + 1).toNat = 1 + 7 * k + 1 by omega, w42 1 (by omega)]
        refine i_aload_n rfl rfl ?_
        refine i_getr rfl rfl rfl rfl (by decide) rfl ?_
        refine i_iload rfl rfl ?_
        refine i_iconst (n := 2) rfl (by unfold iR; omega) ?_
        refine i_iadd rfl (by unfold iR; omega) ?_
        refine i_iald rfl rfl (by first | omega | assumption) (by first | omega | assumption) (by decide) ?_
        -- at 189
        rw [show (1 + 7 * (k : Int) + 2).toNat = 1 + 7 * k + 2 by omega, w42 2 (by omega)]
        refine i_aload_n rfl rfl ?_
        refine i_getr rfl rfl rfl rfl (by decide) rfl ?_
        refine i_iload rfl rfl ?_
        refine i_iconst (n := 3) rfl (by unfold iR; omega) ?_
        refine i_iadd rfl (by unfold iR; omega) ?_
        refine i_iald rfl rfl (by first | omega | assumption) (by first | omega | assumption) (by decide) ?_
        -- at 198
        rw [show (1 + 7 * (k : Int) + 3).toNat = 1 + 7 * k + 3 by omega, w42 3 (by omega)]
        refine i_aload_n rfl rfl ?_
        refine i_getr rfl rfl rfl rfl (by decide) rfl ?_
        refine i_iload rfl rfl ?_
        refine i_iconst (n := 4) rfl (by unfold iR; omega) ?_
        refine i_iadd rfl (by unfold iR; omega) ?_
        refine i_iald rfl rfl (by first | omega | assumption) (by first | omega | assumption) (by decide) ?_
        -- at 207
        rw [show (1 + 7 * (k : Int) + 4).toNat = 1 + 7 * k + 4 by omega, w42 4 (by omega)]
        refine i_aload_n rfl rfl ?_
        refine i_getr rfl rfl rfl rfl (by decide) rfl ?_
        refine i_iload rfl rfl ?_
        refine i_iconst (n := 5) rfl (by unfold iR; omega) ?_
        refine i_iadd rfl (by unfold iR; omega) ?_
        refine i_iald rfl rfl (by first | omega | assumption) (by first | omega | assumption) (by decide) ?_
        -- at 216
        rw [show (1 + 7 * (k : Int) + 5).toNat = 1 + 7 * k + 5 by omega, w42 5 (by omega)]
        refine i_aload_n rfl rfl ?_
        refine i_getr rfl rfl rfl rfl (by decide) rfl ?_
        refine i_iload rfl rfl ?_
        refine i_bipush (n := 6) rfl (by unfold iR; omega) (by decide) ?_
        refine i_iadd rfl (by unfold iR; omega) ?_
        refine i_iald rfl rfl (by first | omega | assumption) (by first | omega | assumption) (by decide) ?_
        -- at 226
        rw [show (1 + 7 * (k : Int) + 6).toNat = 1 + 7 * k + 6 by omega, w42 6 (by omega)]
        refine i_call (T := (151, zp_151)) rfl rfl (a1) rfl rfl rfl rfl rfl rfl rfl ?_
        try dsimp only
        refine i_iinc rfl rfl (by unfold iR; omega) (Nat.le_of_ble_eq_true rfl) rfl ?_
        refine i_goto rfl ?_
        -- at 133
        exact k1
      · have ekk : kpN G W (k + 1) = kpN G W k := by
          show (if G k = 0 then _ else _) = _
          rw [if_neg (by omega)]
        obtain ⟨M3, y', k1, k2⟩ := ih (k + 1) M1 (some (iI (1 + 7 * (k : Int)))) (by omega) fr (by rw [ekk]; exact m1) (by rw [ekk]; exact mw)
        refine ⟨M3, y', fun q hq => ?_, k2⟩
        have k1 := k1 q hq
        refine i_iload rfl rfl ?_
        refine i_aload_n rfl rfl ?_
        refine i_getr rfl rfl rfl rfl (by decide) rfl ?_
        refine i_iconst (n := 0) rfl (by unfold iR; omega) ?_
        refine i_iald rfl rfl (by first | omega | assumption) (by first | omega | assumption) (by decide) ?_
        -- at 141
        show irun none zp_152 141 _ (iI (M1 42 0) :: _) _ _ 0 0 _
        rw [c1]
        refine i_icmp_ge_f rfl (by first | omega | assumption) ?_
        refine i_iconst (n := 1) rfl (by unfold iR; omega) ?_
        refine i_bipush (n := 7) rfl (by unfold iR; omega) (by decide) ?_
        refine i_iload rfl rfl ?_
        refine i_imul rfl (by unfold iR; omega) ?_
        refine i_iadd rfl (by unfold iR; omega) ?_
        refine i_istore rfl (Nat.le_of_ble_eq_true rfl) rfl ?_
        refine i_aload_n rfl rfl ?_
        refine i_getr rfl rfl rfl rfl (by decide) rfl ?_
        refine i_iload rfl rfl ?_
        refine i_bald rfl rfl (by first | omega | assumption) (by first | omega | assumption) ?_
        -- at 160
        rw [show (k : Int).toNat = k by omega, g49, g]
        refine i_if_ne_t rfl (by first | omega | assumption) ?_
        refine i_iinc rfl rfl (by unfold iR; omega) (Nat.le_of_ble_eq_true rfl) rfl ?_
        refine i_goto rfl ?_
        -- at 133
        exact k1
  obtain ⟨M', y', k1, k2⟩ := loop c 0 (i_st M 43 0 0) none (by omega) (Fr_st (Fr_r _ _) (by decide)) rfl (fun j hj => absurd hj (Nat.not_lt_zero _))
  refine ⟨M', y', fun q hq => ?_, k2⟩
  have k1 := k1 q hq
  refine i_aload_n rfl rfl ?_
  refine i_getr rfl rfl rfl rfl (by decide) rfl ?_
  refine i_iconst (n := 0) rfl (by unfold iR; omega) ?_
  refine i_iconst (n := 0) rfl (by unfold iR; omega) ?_
  refine i_iast rfl rfl (by first | omega | assumption) (by first | omega | assumption) ?_
  refine i_iconst (n := 0) rfl (by unfold iR; omega) ?_
  refine i_istore rfl (Nat.le_of_ble_eq_true rfl) rfl ?_
  -- at 133
  exact k1
set_option maxRecDepth 100000 in
theorem d_planC {b : Bool} {M0 M : iM} {p c a n : Nat} {y0 : Option iV} (h : CP M0 p c a n) (r : RT M0 M p c a n) (hf1 : fI M0 p ≠ -1) (h10 : pN M0 p ≤ 10) (m0 : M 43 0 = ((kK M0 p).1 : Int)) (mw0 : ∀ j, j < 7 * (kK M0 p).1 → M 43 (1 + j) = (kK M0 p).2 j) :
    ((∀ i, i < a → vr (M0 32) (M0 8) i ≤ 255) → ∃ M' y z, (∀ q, irun none zp_152 364 [some (iP 40), some (iI (tN M0)), some (iI (sE M0 : Int)), some (iI (fI M0 p)), some (iI (sm (M0 9) a)), some (iI (a : Int)), y, z] [] (SH b) M' 0 0 q → irun none zp_152 235 [some (iP 40), some (iI (tN M0)), some (iI (sE M0 : Int)), some (iI (fI M0 p)), some (iI (c : Int)), y0, none, none] [] (SH b) M 0 0 q) ∧ Fr [43] M M' ∧ M' 43 0 = (pN M0 p : Int) ∧ (∀ j, j < 7 * pN M0 p → M' 43 (1 + j) = (pL M0 p a).2 j)) ∧
    (¬ (∀ i, i < a → vr (M0 32) (M0 8) i ≤ 255) → ∃ M', irun none zp_152 235 [some (iP 40), some (iI (tN M0)), some (iI (sE M0 : Int)), some (iI (fI M0 p)), some (iI (c : Int)), y0, none, none] [] (SH b) M 0 0 (some (-4), SH b, M') ∧ Fr [43] M M') := by
  have ha4 := h.ha4
  have ea : aN M0 = a := by unfold aN; rw [h.ha]; rfl
  have ePn : ∀ i, (pL M0 p i).1 = (kK M0 p).1 + i := fun i => plN_n i
  have h10' : (kK M0 p).1 + a ≤ 10 := by
    unfold pN at h10
    omega
  -- the version
  have ver : ∀ (M1 : iM) (k : Nat) (x2 x3 x4 : Int) (q : Option Int × List zS × iM), k < a → (∀ j, j < a → M1 46 j = M0 8 j) → irun none zp_152 310 [some (iP 40), some (iI (tN M0)), some (iI x2), some (iI x3), some (iI x4), some (iI (k : Int)), some (iI (vr (M0 32) (M0 8) k)), some (iI (k : Int))] [] (SH b) M1 0 0 q → ∀ (d i : Nat), i + d = k → irun none zp_152 269 [some (iP 40), some (iI (tN M0)), some (iI x2), some (iI x3), some (iI x4), some (iI (k : Int)), some (iI (M0 32 (M0 8 k).toNat + 1 + (oc (M0 8) (M0 8 k) i : Int))), some (iI (i : Int))] [] (SH b) M1 0 0 q := by
    intro M1 k x2 x3 x4 q hk h46 hq d
    have hN := h.hN k hk
    have hB := h.hB (M0 8 k).toNat (by omega)
    induction d with
    | zero =>
      intro i hi
      obtain rfl : i = k := by omega
      refine i_iload rfl rfl ?_
      refine i_iload rfl rfl ?_
      refine i_icmp_ge_t rfl (by first | omega | assumption) ?_
      -- at 310
      exact hq
    | succ d ih =>
      intro i hi
      have g := ih (i + 1) (by omega)
      have ob := oc_b (M0 8) (M0 8 k) i
      rw [show oc (M0 8) (M0 8 k) (i + 1) = oc (M0 8) (M0 8 k) i + (if M0 8 i = M0 8 k then 1 else 0) from rfl] at g
      refine i_iload rfl rfl ?_
      refine i_iload rfl rfl ?_
      refine i_icmp_ge_f rfl (by first | omega | assumption) ?_
      refine i_aload_n rfl rfl ?_
      refine i_getr rfl rfl rfl rfl (by decide) rfl ?_
      refine i_iload rfl rfl ?_
      refine i_iald rfl rfl (by first | omega | assumption) (by first | omega | assumption) (by decide) ?_
      -- at 283
      rw [show (i : Int).toNat = i by omega, h46 i (by omega)]
      refine i_aload_n rfl rfl ?_
      refine i_getr rfl rfl rfl rfl (by decide) rfl ?_
      refine i_iload rfl rfl ?_
      refine i_iald rfl rfl (by first | omega | assumption) (by first | omega | assumption) (by decide) ?_
      -- at 290
      rw [show (k : Int).toNat = k by omega, h46 k hk]
      by_cases e : M0 8 i = M0 8 k
      · rw [if_pos e, show M0 32 (M0 8 k).toNat + 1 + ((oc (M0 8) (M0 8 k) i + 1 : Nat) : Int) = M0 32 (M0 8 k).toNat + 1 + (oc (M0 8) (M0 8 k) i : Int) + 1 by omega] at g
        refine i_icmp_ne_f rfl (by first | omega | assumption) ?_
        refine i_iload rfl rfl ?_
        refine i_iconst (n := 1) rfl (by unfold iR; omega) ?_
        refine i_iadd rfl (by unfold iR; omega) ?_
        refine i_goto rfl ?_
        refine i_istore rfl (Nat.le_of_ble_eq_true rfl) rfl ?_
        refine i_iinc rfl rfl (by unfold iR; omega) (Nat.le_of_ble_eq_true rfl) rfl ?_
        refine i_goto rfl ?_
        -- at 269
        exact g
      · rw [if_neg e, Nat.add_zero] at g
        refine i_icmp_ne_t rfl (by first | omega | assumption) ?_
        refine i_iload rfl rfl ?_
        refine i_istore rfl (Nat.le_of_ble_eq_true rfl) rfl ?_
        refine i_iinc rfl rfl (by unfold iR; omega) (Nat.le_of_ble_eq_true rfl) rfl ?_
        refine i_goto rfl ?_
        -- at 269
        exact g
  have loop : ∀ (d k : Nat) (M1 : iM) (x y : Option iV), i_free [some (iP 40), some (iI (tN M0)), some (iI (sE M0 : Int)), some (iI (fI M0 p)), some (iI (sm (M0 9) k)), some (iI (k : Int)), x, y] 7 = true → k + d = a → Fr [43] M M1 → (∀ j, j < k → vr (M0 32) (M0 8) j ≤ 255) → M1 43 0 = (((kK M0 p).1 + k : Nat) : Int) → (∀ j, j < 7 * ((kK M0 p).1 + k) → M1 43 (1 + j) = (pL M0 p k).2 j) →
      ((∀ i, i < a → vr (M0 32) (M0 8) i ≤ 255) → ∃ M' y' z', (∀ q, irun none zp_152 364 [some (iP 40), some (iI (tN M0)), some (iI (sE M0 : Int)), some (iI (fI M0 p)), some (iI (sm (M0 9) a)), some (iI (a : Int)), y', z'] [] (SH b) M' 0 0 q → irun none zp_152 241 [some (iP 40), some (iI (tN M0)), some (iI (sE M0 : Int)), some (iI (fI M0 p)), some (iI (sm (M0 9) k)), some (iI (k : Int)), x, y] [] (SH b) M1 0 0 q) ∧ Fr [43] M M' ∧ M' 43 0 = (pN M0 p : Int) ∧ (∀ j, j < 7 * pN M0 p → M' 43 (1 + j) = (pL M0 p a).2 j)) ∧
      (¬ (∀ i, i < a → vr (M0 32) (M0 8) i ≤ 255) → ∃ M', irun none zp_152 241 [some (iP 40), some (iI (tN M0)), some (iI (sE M0 : Int)), some (iI (fI M0 p)), some (iI (sm (M0 9) k)), some (iI (k : Int)), x, y] [] (SH b) M1 0 0 (some (-4), SH b, M') ∧ Fr [43] M M') := by
    intro d
    induction d with
    | zero =>
      intro k M1 x y hfr hk fr hv m1 mw
      obtain rfl : k = a := by omega
      have h13 : M1 40 13 = (k : Int) := by rw [fr 40 (by decide)]; exact r.r13
      refine ⟨fun _ => ⟨M1, x, y, fun q hq => ?_, fr, ?_, ?_⟩, fun q => absurd hv q⟩
      · refine i_iload rfl rfl ?_
        refine i_aload_n rfl rfl ?_
        refine i_getf rfl rfl rfl rfl (by decide) ?_
        refine i_icmp_ge_t rfl (by first | omega | assumption) ?_
        -- at 364
        exact hq
      · rw [m1]; unfold pN; rw [ea]
      · unfold pN; rw [ea]; exact mw
    | succ d ih =>
      intro k M1 x y hfr hk fr hv m1 mw
      have h13 : M1 40 13 = (a : Int) := by rw [fr 40 (by decide)]; exact r.r13
      have h46 : ∀ j, j < a → M1 46 j = M0 8 j := fun j hj => by rw [fr 46 (by decide)]; exact r.r46 j hj
      have h47 : M1 47 k = M0 9 k := by rw [fr 47 (by decide)]; exact r.r47 k (by omega)
      have hN := h.hN k (by omega)
      obtain ⟨w, ew⟩ := Int.eq_ofNat_of_zero_le hN.1
      have h44 : M1 44 w = M0 32 w := by rw [fr 44 (by decide)]; exact r.r44 w (by omega)
      have hB := h.hB w (by omega)
      have hZ := h.hZ k (by omega)
      have hs1 := smZ_b h.hZ k (by omega)
      have e46 : M1 46 k = (w : Int) := by rw [h46 k (by omega)]; exact ew
      have ob := oc_b (M0 8) (M0 8 k) k
      have hvr : vr (M0 32) (M0 8) k = M0 32 (M0 8 k).toNat + 1 + (oc (M0 8) (M0 8 k) k : Int) := rfl
      have pre : ∀ q, irun none zp_152 310 [some (iP 40), some (iI (tN M0)), some (iI (sE M0 : Int)), some (iI (fI M0 p)), some (iI (sm (M0 9) k)), some (iI (k : Int)), some (iI (vr (M0 32) (M0 8) k)), some (iI (k : Int))] [] (SH b) M1 0 0 q → irun none zp_152 241 [some (iP 40), some (iI (tN M0)), some (iI (sE M0 : Int)), some (iI (fI M0 p)), some (iI (sm (M0 9) k)), some (iI (k : Int)), x, y] [] (SH b) M1 0 0 q := by
        intro q hq
        have v := ver M1 k _ _ _ q (by omega) h46 hq k 0 (by omega)
        rw [show (M0 8 k).toNat = w by omega] at v
        rw [show M0 32 w + 1 + (oc (M0 8) (M0 8 k) 0 : Int) = M0 32 w + 1 by show M0 32 w + 1 + 0 = _; omega] at v
        refine i_iload rfl rfl ?_
        refine i_aload_n rfl rfl ?_
        refine i_getf rfl rfl rfl rfl (by decide) ?_
        refine i_icmp_ge_f rfl (by first | omega | assumption) ?_
        refine i_aload_n rfl rfl ?_
        refine i_getr rfl rfl rfl rfl (by decide) rfl ?_
        refine i_aload_n rfl rfl ?_
        refine i_getr rfl rfl rfl rfl (by decide) rfl ?_
        refine i_iload rfl rfl ?_
        refine i_iald rfl rfl (by first | omega | assumption) (by first | omega | assumption) (by decide) ?_
        -- at 261
        rw [show (k : Int).toNat = k by omega, e46]
        refine i_iald rfl rfl (by first | omega | assumption) (by first | omega | assumption) (by decide) ?_
        -- at 262
        rw [show (w : Int).toNat = w by omega, h44]
        refine i_iconst (n := 1) rfl (by unfold iR; omega) ?_
        refine i_iadd rfl (by unfold iR; omega) ?_
        refine i_istore rfl (Nat.le_of_ble_eq_true rfl) rfl ?_
        refine i_iconst (n := 0) rfl (by unfold iR; omega) ?_
        refine i_istore rfl (Nat.le_of_ble_eq_true rfl) rfl ?_
        -- at 269
        exact v
      by_cases bad : vr (M0 32) (M0 8) k ≤ 255
      · have pk0 := pL_PK h hf1
        have hne : ∀ j, j < (kK M0 p).1 + k → ¬ ((pL M0 p k).2 (7 * j) = M0 8 k ∧ (pL M0 p k).2 (7 * j + 1) = vr (M0 32) (M0 8) k) := by
          have key : PK (M0 32) (M0 8) k (pL M0 p k) := by
            refine PK_all (kK_PK h) (a := k) (fun i hi => h.hN i (by omega)) (fun i hi => hv i hi) (fun j hj => (h.hB j hj).1) (fun h1 => ?_) (fun i hi => ?_) (fun i hi => h.hZ i (by omega)) (tN_b h.ht) k (Nat.le_refl _)
            · have := fI_b h (by omega) hf1
              omega
            · have := smZ_b h.hZ i (by omega)
              omega
          have := PK_ne key
          rw [ePn] at this
          exact this
        obtain ⟨M2, a1, a2, a3, a4⟩ := d_enter (b := b) (M := M1) (E0 := M0 8 k) (E1 := vr (M0 32) (M0 8) k) (E2 := fI M0 p) (E3 := (sE M0 : Int)) (E4 := sm (M0 9) k) (E5 := M0 9 k) (E6 := tN M0) m1 (by omega) mw hne
        have hih := ih (k + 1) M2 (some (iI (vr (M0 32) (M0 8) k))) (some (iI (k : Int))) rfl (by omega) (Fr_t fr a2 (by decide)) (fun j hj => by
          by_cases e : j = k
          · rw [e]; exact bad
          · exact hv j (by omega)) a3 (fun j hj => by
          rw [a4 j hj]
          show _ = insW (pL M0 p k).2 (ipos (pL M0 p k).2 (M0 8 k) (vr (M0 32) (M0 8) k) (pL M0 p k).1) _ j
          rw [ePn])
        have step : ∀ q, irun none zp_152 241 [some (iP 40), some (iI (tN M0)), some (iI (sE M0 : Int)), some (iI (fI M0 p)), some (iI (sm (M0 9) (k + 1))), some (iI ((k + 1 : Nat) : Int)), some (iI (vr (M0 32) (M0 8) k)), some (iI (k : Int))] [] (SH b) M2 0 0 q → irun none zp_152 241 [some (iP 40), some (iI (tN M0)), some (iI (sE M0 : Int)), some (iI (fI M0 p)), some (iI (sm (M0 9) k)), some (iI (k : Int)), x, y] [] (SH b) M1 0 0 q := by
          intro q hq
          rw [show sm (M0 9) (k + 1) = sm (M0 9) k + M0 9 k from rfl] at hq
          refine pre q ?_
          refine i_iload rfl rfl ?_
          refine i_sipush (n := 255) rfl (by unfold iR; omega) (by decide) ?_
          refine i_icmp_le_t rfl (by first | omega | assumption) ?_
          refine i_aload_n rfl rfl ?_
          refine i_aload_n rfl rfl ?_
          refine i_getr rfl rfl rfl rfl (by decide) rfl ?_
          refine i_iload rfl rfl ?_
          refine i_iald rfl rfl (by first | omega | assumption) (by first | omega | assumption) (by decide) ?_
          -- at 329
          rw [show (k : Int).toNat = k by omega, h46 k (by omega)]
          refine i_iload rfl rfl ?_
          refine i_iload_n rfl rfl ?_
          refine i_iload_n rfl rfl ?_
          refine i_iload rfl rfl ?_
          refine i_aload_n rfl rfl ?_
          refine i_getr rfl rfl rfl rfl (by decide) rfl ?_
          refine i_iload rfl rfl ?_
          refine i_iald rfl rfl (by first | omega | assumption) (by first | omega | assumption) (by decide) ?_
          -- at 342
          rw [show (k : Int).toNat = k by omega, h47]
          refine i_iload_n rfl rfl ?_
          -- at 343
          refine i_call (T := (151, zp_151)) rfl rfl (a1) rfl rfl rfl rfl rfl rfl rfl ?_
          try dsimp only
          refine i_iload rfl rfl ?_
          refine i_aload_n rfl rfl ?_
          refine i_getr rfl rfl rfl rfl (by decide) rfl ?_
          refine i_iload rfl rfl ?_
          refine i_iald rfl rfl (by first | omega | assumption) (by first | omega | assumption) (by decide) ?_
          -- at 355
          rw [show (k : Int).toNat = k by omega, a2 47 (by decide), h47]
          refine i_iadd rfl (by unfold iR; omega) ?_
          refine i_istore rfl (Nat.le_of_ble_eq_true rfl) rfl ?_
          refine i_iinc rfl rfl (by unfold iR; omega) (Nat.le_of_ble_eq_true rfl) rfl ?_
          refine i_goto rfl ?_
          -- at 241
          exact hq
        refine ⟨fun hall => ?_, fun hno => ?_⟩
        · obtain ⟨M', y', z', k1, k2⟩ := hih.1 hall
          exact ⟨M', y', z', fun q hq => step q (k1 q hq), k2⟩
        · obtain ⟨M', k1, k2⟩ := hih.2 hno
          exact ⟨M', step _ k1, k2⟩
      · refine ⟨fun hall => absurd (hall k (by omega)) bad, fun _ => ⟨M1, pre _ ?_, fr⟩⟩
        refine i_iload rfl rfl ?_
        refine i_sipush (n := 255) rfl (by unfold iR; omega) (by decide) ?_
        refine i_icmp_le_f rfl (by first | omega | assumption) ?_
        refine i_bipush (n := -4) rfl (by unfold iR; omega) (by decide) ?_
        -- at 320
        exact i_ireturn rfl rfl
  obtain ⟨l1, l2⟩ := loop a 0 M none none rfl (by omega) (Fr_r _ _) (fun j hj => by omega) m0 mw0
  refine ⟨fun hall => ?_, fun hno => ?_⟩
  · obtain ⟨M', y', z', k1, k2⟩ := l1 hall
    refine ⟨M', y', z', fun q hq => ?_, k2⟩
    have k1 := k1 q hq
    refine i_iconst (n := 0) rfl (by unfold iR; omega) ?_
    refine i_istore rfl (Nat.le_of_ble_eq_true rfl) rfl ?_
    refine i_iconst (n := 0) rfl (by unfold iR; omega) ?_
    refine i_istore rfl (Nat.le_of_ble_eq_true rfl) rfl ?_
    -- at 241
    exact k1
  · obtain ⟨M', k1, k2⟩ := l2 hno
    refine ⟨M', ?_, k2⟩
    refine i_iconst (n := 0) rfl (by unfold iR; omega) ?_
    refine i_istore rfl (Nat.le_of_ble_eq_true rfl) rfl ?_
    refine i_iconst (n := 0) rfl (by unfold iR; omega) ?_
    refine i_istore rfl (Nat.le_of_ble_eq_true rfl) rfl ?_
    -- at 241
    exact k1
