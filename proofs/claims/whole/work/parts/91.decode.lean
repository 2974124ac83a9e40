def dfN (R : Nat → Int) : Nat → Nat → Int
  | 0 => R
  | k + 1 => if k = 0 then dfN R k else va_up (dfN R k) k ((dfN R k k + dfN R k (k - 1)) % 256)
theorem dfN_1 (R : Nat → Int) : dfN R 1 = R := rfl
theorem dfN_s {R : Nat → Int} {k : Nat} (h : ¬ k = 0) : dfN R (k + 1) = va_up (dfN R k) k ((dfN R k k + dfN R k (k - 1)) % 256) := by
  show (if k = 0 then _ else _) = _
  rw [if_neg h]
theorem dfN_c {R S : Nat → Int} {g : Nat} (h : ∀ j, j < g → R j = S j ∧ 0 ≤ S j ∧ S j < 256) : ∀ k, k ≤ g → ∀ j, j < g → dfN R k j = dfN S k j ∧ 0 ≤ dfN S k j ∧ dfN S k j < 256 := by
  intro k
  induction k with
  | zero => intro _; exact h
  | succ k ih =>
    intro hk j hj
    have ih := ih (by omega)
    by_cases k0 : k = 0
    · subst k0
      exact h j hj
    · rw [dfN_s k0, dfN_s k0, (ih k (by omega)).1, (ih (k - 1) (by omega)).1]
      by_cases e : j = k
      · rw [e, up_s, up_s]
        exact ⟨rfl, by omega, by omega⟩
      · rw [up_n e, up_n e]
        exact ih j hj
theorem mrn_b {B : Nat → Int} {m all : Nat} : ∀ (c d a : Nat) (R : Nat → Int), all ≤ d + c → (∀ j, j < d → 0 ≤ R j ∧ R j < 256) → ∀ R', mrn B m all c d a R = some R' → ∀ j, j < all → 0 ≤ R' j ∧ R' j < 256 := by
  intro c
  induction c with
  | zero =>
    intro d a R h1 h2 R' hR j hj
    rw [mrn_e (by omega)] at hR
    cases hR
    exact h2 j (by omega)
  | succ c ih =>
    intro d a R h1 h2 R' hR
    by_cases hd : d < all
    · rcases hm : mst B m all d a R with _ | ⟨d', a', R1⟩
      · rw [mrn_n hd hm] at hR
        cases hR
      · rw [mrn_s hd hm] at hR
        unfold mst at hm
        have v4 := nv_b B (a + 1) 4
        have v3 := nv_b B (a + 5) 3
        have v8 := nv_b B (a + 1) 8
        split at hm
        · split at hm
          · rename_i hk
            cases hm
            exact ih _ _ _ (by omega) (fun j hj => (mcp_c (R := R) (S := R) (by omega) (by omega) (fun j hj => ⟨rfl, h2 j hj⟩) hj).2) R' hR
          · cases hm
        · split at hm
          · cases hm
            refine ih _ _ _ (by omega) (fun j hj => ?_) R' hR
            by_cases e : j = d
            · rw [e, up_s]; exact v8
            · rw [up_n e]; exact h2 j (by omega)
          · cases hm
    · rw [mrn_e hd] at hR
      cases hR
      intro j hj
      exact h2 j (by omega)
noncomputable def dcD (codec : Int) (B : Nat → Int) (m all : Nat) : Option (Nat → Int) := if codec = 0 then st0 B m all else if codec = 1 then mrn B m all all 0 0 (fun _ => 0) else if codec = 2 then (mrn B m all all 0 0 (fun _ => 0)).map (fun R => dfN R all) else pfx B m all
noncomputable def unp (T : Nat → Int) (room : Int) : Option (Nat → Int) := if T 0 ≤ 3 ∧ 3 + T 2 ≤ room then dcD (T 0) (fun k => T (3 + k)) (T 2).toNat (T 1).toNat else none
set_option maxRecDepth 100000 in
theorem c_diff {b : Bool} {M : iM} {B : Nat → Int} {m all : Nat} (hB : BS M B m 0) (hm : m ≤ 256) (hall : all ≤ 255) : ∃ M', irun none zp_94 0 (i_ent [iP 15, iP 28, iP 31, iI (all : Int)] 5) [] (SH b) M 0 0 (some (ob ((mrn B m all all 0 0 (fun _ => 0)).map (fun R => dfN R all))), SH b, M') ∧ Fr [28, 31] M M' ∧ ∀ R', (mrn B m all all 0 0 (fun _ => 0)).map (fun R => dfN R all) = some R' → ∀ j, j < all → M' 31 j = R' j ∧ 0 ≤ R' j ∧ R' j < 256 := by
  obtain ⟨M1, h1, f1, g1⟩ := c_matches (b := b) (p := 16) hB hm hall
  rcases hr : mrn B m all all 0 0 (fun _ => 0) with _ | R
  · rw [hr] at h1
    refine ⟨M1, ?_, f1, fun R' hR => by cases hR⟩
    refine i_aload_n rfl rfl ?_
    refine i_getr rfl rfl rfl rfl (by decide) rfl ?_
    refine i_aload_n rfl rfl ?_
    refine i_aload_n rfl rfl ?_
    refine i_iload_n rfl rfl ?_
    -- at 7
    refine i_call (T := (89, zp_89)) rfl rfl (h1) rfl rfl rfl rfl rfl rfl rfl ?_
    try dsimp only
    show irun none zp_94 10 _ (iI (0) :: _) _ _ 0 0 _
    refine i_if_ne_f rfl (by first | omega | assumption) ?_
    refine i_iconst (n := 0) rfl (by unfold iR; omega) ?_
    -- at 14
    exact i_zreturn rfl rfl (by first | omega | assumption)
  · rw [hr] at h1
    have g1 := g1 R hr
    have hd := dfN_c g1
    have hd2 := dfN_c (R := R) (S := R) (g := all) (fun j hj => ⟨rfl, (g1 j hj).2⟩)
    have loop : ∀ (c k : Nat), k + c = all → 1 ≤ k → irun none zp_94 18 [some (iP 15), some (iP 28), some (iP 31), some (iI (all : Int)), some (iI (k : Int))] [] (SH b) (va_up M1 31 (dfN (M1 31) k)) 0 0 (some 1, SH b, va_up M1 31 (dfN (M1 31) all)) := by
      intro c
      induction c with
      | zero =>
        intro k hk hk1
        obtain rfl : k = all := by omega
        refine i_iload rfl rfl ?_
        refine i_iload_n rfl rfl ?_
        refine i_icmp_ge_t rfl (by first | omega | assumption) ?_
        refine i_iconst (n := 1) rfl (by unfold iR; omega) ?_
        -- at 50
        exact i_zreturn rfl rfl (by first | omega | assumption)
      | succ c ih =>
        intro k hk hk1
        have hnx := ih (k + 1) (by omega) (by omega)
        rw [dfN_s (show ¬ k = 0 by omega)] at hnx
        have a1 := hd k (by omega) k (by omega)
        have a2 := hd k (by omega) (k - 1) (by omega)
        rw [a1.1, a2.1] at hnx
        refine i_iload rfl rfl ?_
        refine i_iload_n rfl rfl ?_
        refine i_icmp_ge_f rfl (by first | omega | assumption) ?_
        refine i_aload_n rfl rfl ?_
        refine i_iload rfl rfl ?_
        refine i_aload_n rfl rfl ?_
        refine i_iload rfl rfl ?_
        refine i_iald rfl rfl (by first | omega | assumption) (by first | omega | assumption) (by decide) ?_
        -- at 31
        rw [show (k : Int).toNat = k by omega]
        show irun none zp_94 31 _ (iI (dfN (M1 31) k k) :: _) _ _ 0 0 _
        rw [a1.1]
        refine i_aload_n rfl rfl ?_
        refine i_iload rfl rfl ?_
        refine i_iconst (n := 1) rfl (by unfold iR; omega) ?_
        refine i_isub rfl (by unfold iR; omega) ?_
        refine i_iald rfl rfl (by first | omega | assumption) (by first | omega | assumption) (by decide) ?_
        -- at 37
        rw [show ((k : Int) - 1).toNat = k - 1 by omega]
        show irun none zp_94 37 _ (iI (dfN (M1 31) k (k - 1)) :: _) _ _ 0 0 _
        rw [a2.1]
        refine i_iadd rfl (by unfold iR; omega) ?_
        refine i_sipush (n := 255) rfl (by unfold iR; omega) (by decide) ?_
        refine i_iand 8 rfl (by decide) (by decide) ?_
        refine i_iast rfl rfl (by first | omega | assumption) (by first | omega | assumption) ?_
        refine i_iinc rfl rfl (by unfold iR; omega) (Nat.le_of_ble_eq_true rfl) rfl ?_
        refine i_goto rfl ?_
        -- at 18
        rw [show (k : Int).toNat = k by omega, up_st]
        exact hnx
    refine ⟨va_up M1 31 (dfN (M1 31) all), ?_, Fr_up f1 (by decide), fun R' hR j hj => ?_⟩
    · by_cases a0 : all = 0
      · subst a0
        rw [show va_up M1 31 (dfN (M1 31) 0) = M1 from up_id M1 31 rfl]
        refine i_aload_n rfl rfl ?_
        refine i_getr rfl rfl rfl rfl (by decide) rfl ?_
        refine i_aload_n rfl rfl ?_
        refine i_aload_n rfl rfl ?_
        refine i_iload_n rfl rfl ?_
        -- at 7
        refine i_call (T := (89, zp_89)) rfl rfl (h1) rfl rfl rfl rfl rfl rfl rfl ?_
        try dsimp only
        show irun none zp_94 10 _ (iI (1) :: _) _ _ 0 0 _
        refine i_if_ne_t rfl (by first | omega | assumption) ?_
        refine i_iconst (n := 1) rfl (by unfold iR; omega) ?_
        refine i_istore rfl (Nat.le_of_ble_eq_true rfl) rfl ?_
        refine i_iload rfl rfl ?_
        refine i_iload_n rfl rfl ?_
        refine i_icmp_ge_t rfl (by first | omega | assumption) ?_
        refine i_iconst (n := 1) rfl (by unfold iR; omega) ?_
        -- at 50
        exact i_zreturn rfl rfl (by first | omega | assumption)
      · have h0 := loop (all - 1) 1 (by omega) (by omega)
        rw [dfN_1, up_id M1 31 rfl] at h0
        refine i_aload_n rfl rfl ?_
        refine i_getr rfl rfl rfl rfl (by decide) rfl ?_
        refine i_aload_n rfl rfl ?_
        refine i_aload_n rfl rfl ?_
        refine i_iload_n rfl rfl ?_
        -- at 7
        refine i_call (T := (89, zp_89)) rfl rfl (h1) rfl rfl rfl rfl rfl rfl rfl ?_
        try dsimp only
        show irun none zp_94 10 _ (iI (1) :: _) _ _ 0 0 _
        refine i_if_ne_t rfl (by first | omega | assumption) ?_
        refine i_iconst (n := 1) rfl (by unfold iR; omega) ?_
        refine i_istore rfl (Nat.le_of_ble_eq_true rfl) rfl ?_
        -- at 18
        exact h0
    · cases hR
      exact hd all (Nat.le_refl _) j hj
set_option maxRecDepth 100000 in
theorem d_dfL {b : Bool} {M : iM} {s all : Int} {g : Nat} {q : Option Int × List zS × iM} (hg : M 40 38 = (g : Int)) (h255 : g ≤ 255) (hb : ∀ j, j < g → 0 ≤ M 61 j ∧ M 61 j < 256)
    (hq : ∀ l4 : Option iV, irun none zp_137 171 [some (iP 40), some (iI s), some (iI 2), some (iI all), l4] [] (SH b) (va_up M 61 (dfN (M 61) g)) 0 0 q) :
    irun none zp_137 120 [some (iP 40), some (iI s), some (iI 2), some (iI all), none] [] (SH b) M 0 0 q := by
  have hd := dfN_c (R := M 61) (S := M 61) (g := g) (fun j hj => ⟨rfl, hb j hj⟩)
  have loop : ∀ (c k : Nat), k + c = g → 1 ≤ k → irun none zp_137 123 [some (iP 40), some (iI s), some (iI 2), some (iI all), some (iI (k : Int))] [] (SH b) (va_up M 61 (dfN (M 61) k)) 0 0 q := by
    intro c
    induction c with
    | zero =>
      intro k hk hk1
      obtain rfl : k = g := by omega
      have hg : (va_up M 61 (dfN (M 61) k)) 40 38 = (k : Int) := hg
      refine i_iload rfl rfl ?_
      refine i_aload_n rfl rfl ?_
      refine i_getf rfl rfl rfl rfl (by decide) ?_
      refine i_icmp_ge_t rfl (by first | omega | assumption) ?_
      -- at 171
      exact hq _
    | succ c ih =>
      intro k hk hk1
      have hnx := ih (k + 1) (by omega) (by omega)
      rw [dfN_s (show ¬ k = 0 by omega)] at hnx
      have a1 := hd k (by omega) k (by omega)
      have a2 := hd k (by omega) (k - 1) (by omega)
      have hg : (va_up M 61 (dfN (M 61) k)) 40 38 = (g : Int) := hg
      refine i_iload rfl rfl ?_
      refine i_aload_n rfl rfl ?_
      refine i_getf rfl rfl rfl rfl (by decide) ?_
      refine i_icmp_ge_f rfl (by first | omega | assumption) ?_
      refine i_iload_n rfl rfl ?_
      refine i_iconst (n := 2) rfl (by unfold iR; omega) ?_
      refine i_icmp_ne_f rfl (by first | omega | assumption) ?_
      refine i_aload_n rfl rfl ?_
      refine i_getr rfl rfl rfl rfl (by decide) rfl ?_
      refine i_iload rfl rfl ?_
      refine i_aload_n rfl rfl ?_
      refine i_getr rfl rfl rfl rfl (by decide) rfl ?_
      refine i_iload rfl rfl ?_
      refine i_iald rfl rfl (by first | omega | assumption) (by first | omega | assumption) (by decide) ?_
      -- at 150
      rw [show (k : Int).toNat = k by omega]
      show irun none zp_137 150 _ (iI (dfN (M 61) k k) :: _) _ _ 0 0 _
      refine i_aload_n rfl rfl ?_
      refine i_getr rfl rfl rfl rfl (by decide) rfl ?_
      refine i_iload rfl rfl ?_
      refine i_iconst (n := 1) rfl (by unfold iR; omega) ?_
      refine i_isub rfl (by unfold iR; omega) ?_
      refine i_iald rfl rfl (by first | omega | assumption) (by first | omega | assumption) (by decide) ?_
      -- at 159
      rw [show ((k : Int) - 1).toNat = k - 1 by omega]
      show irun none zp_137 159 _ (iI (dfN (M 61) k (k - 1)) :: _) _ _ 0 0 _
      refine i_iadd rfl (by unfold iR; omega) ?_
      refine i_sipush (n := 255) rfl (by unfold iR; omega) (by decide) ?_
      refine i_iand 8 rfl (by decide) (by decide) ?_
      refine i_iast rfl rfl (by first | omega | assumption) (by first | omega | assumption) ?_
      refine i_iinc rfl rfl (by unfold iR; omega) (Nat.le_of_ble_eq_true rfl) rfl ?_
      refine i_goto rfl ?_
      -- at 123
      rw [show (k : Int).toNat = k by omega, up_st]
      exact hnx
  by_cases g1 : 1 ≤ g
  · have h0 := loop (g - 1) 1 (by omega) (by omega)
    rw [dfN_1, up_id M 61 rfl] at h0
    refine i_iconst (n := 1) rfl (by unfold iR; omega) ?_
    refine i_istore rfl (Nat.le_of_ble_eq_true rfl) rfl ?_
    -- at 123
    exact h0
  · obtain rfl : g = 0 := by omega
    rw [show va_up M 61 (dfN (M 61) 0) = M from up_id M 61 rfl] at hq
    refine i_iconst (n := 1) rfl (by unfold iR; omega) ?_
    refine i_istore rfl (Nat.le_of_ble_eq_true rfl) rfl ?_
    refine i_iload rfl rfl ?_
    refine i_aload_n rfl rfl ?_
    refine i_getf rfl rfl rfl rfl (by decide) ?_
    refine i_icmp_ge_t rfl (by first | omega | assumption) ?_
    -- at 171
    exact hq _
set_option maxRecDepth 100000 in
theorem d_nodf {b : Bool} {M : iM} {s all codec : Int} {g : Nat} {q : Option Int × List zS × iM} (hg : M 40 38 = (g : Int)) (hc : codec ≠ 2)
    (hq : ∀ l4 : Option iV, irun none zp_137 171 [some (iP 40), some (iI s), some (iI codec), some (iI all), l4] [] (SH b) M 0 0 q) :
    irun none zp_137 120 [some (iP 40), some (iI s), some (iI codec), some (iI all), none] [] (SH b) M 0 0 q := by
  by_cases c : (1 : Int) < g
  · refine i_iconst (n := 1) rfl (by unfold iR; omega) ?_
    refine i_istore rfl (Nat.le_of_ble_eq_true rfl) rfl ?_
    refine i_iload rfl rfl ?_
    refine i_aload_n rfl rfl ?_
    refine i_getf rfl rfl rfl rfl (by decide) ?_
    refine i_icmp_ge_f rfl (by first | omega | assumption) ?_
    refine i_iload_n rfl rfl ?_
    refine i_iconst (n := 2) rfl (by unfold iR; omega) ?_
    refine i_icmp_ne_t rfl (by first | omega | assumption) ?_
    -- at 171
    exact hq _
  · refine i_iconst (n := 1) rfl (by unfold iR; omega) ?_
    refine i_istore rfl (Nat.le_of_ble_eq_true rfl) rfl ?_
    refine i_iload rfl rfl ?_
    refine i_aload_n rfl rfl ?_
    refine i_getf rfl rfl rfl rfl (by decide) ?_
    refine i_icmp_ge_t rfl (by first | omega | assumption) ?_
    -- at 171
    exact hq _
set_option maxRecDepth 100000 in
theorem d_dEnd {b : Bool} {M : iM} {s all codec r : Int} {l4 : Option iV} (h : (M 40 39 = 0 ∧ r = 1) ∨ (M 40 39 = 1 ∧ r = 0)) : irun none zp_137 171 [some (iP 40), some (iI s), some (iI codec), some (iI all), l4] [] (SH b) M 0 0 (some r, SH b, M) := by
  rcases h with ⟨h, rfl⟩ | ⟨h, rfl⟩
  · refine i_aload_n rfl rfl ?_
    refine i_getf rfl rfl rfl rfl (by decide) ?_
    refine i_if_ne_f rfl (by first | omega | assumption) ?_
    refine i_iconst (n := 1) rfl (by unfold iR; omega) ?_
    refine i_goto rfl ?_
    -- at 183
    exact i_zreturn rfl rfl (by first | omega | assumption)
  · refine i_aload_n rfl rfl ?_
    refine i_getf rfl rfl rfl rfl (by decide) ?_
    refine i_if_ne_t rfl (by first | omega | assumption) ?_
    refine i_iconst (n := 0) rfl (by unfold iR; omega) ?_
    -- at 183
    exact i_zreturn rfl rfl (by first | omega | assumption)
set_option maxRecDepth 100000 in
theorem d_stL {b : Bool} {B : Nat → Int} {m all : Nat} {s : Int} (hm : m ≤ 256) (hall : all ≤ 255) : ∀ (c i : Nat) (M : iM), i + c = all → i ≤ m → RB M B m (8 * i) → M 40 38 = (i : Int) → M 40 39 = 0 → (∀ j, j < i → M 61 j = nv B (8 * j) 8) →
    ∃ M', (∀ q, irun none zp_137 120 [some (iP 40), some (iI s), some (iI 0), some (iI (all : Int)), none] [] (SH b) M' 0 0 q → irun none zp_137 74 [some (iP 40), some (iI s), some (iI 0), some (iI (all : Int)), none] [] (SH b) M 0 0 q) ∧ Fr [40, 61] M M' ∧ Gk M M' ∧ (match st0 B m all with
      | some R' => M' 40 39 = 0 ∧ M' 40 38 = (all : Int) ∧ ∀ j, j < all → M' 61 j = R' j
      | none => M' 40 39 = 1 ∧ ∃ g : Nat, M' 40 38 = (g : Int) ∧ g ≤ all) := by
  intro c
  induction c with
  | zero =>
    intro i M hi him hB h38 h39 h61
    obtain rfl : i = all := by omega
    have e : st0 B m i = some (fun j => nv B (8 * j) 8) := by unfold st0; rw [if_pos him]
    rw [e]
    refine ⟨M, fun q hq => ?_, Fr_r _ _, Gk_r _, h39, h38, h61⟩
    refine i_aload_n rfl rfl ?_
    refine i_getf rfl rfl rfl rfl (by decide) ?_
    refine i_iload_n rfl rfl ?_
    refine i_icmp_ge_t rfl (by first | omega | assumption) ?_
    -- at 120
    exact hq
  | succ c ih =>
    intro i M hi him hB h38 h39 h61
    by_cases e : i < m
    · obtain ⟨M1, n8, f1, r1, q1⟩ := d_numG (b := b) (n := 8) hB hm (by decide) (by omega)
      obtain ⟨M2, k1, k2, k3, k4, k5⟩ := d_give (b := b) (v := nv B (8 * i) 8) ((q1 38 (by decide)).trans h38) (by omega)
      obtain ⟨M', g1, g2, g3, g4⟩ := ih (i + 1) M2 (by omega) (by omega) (RB_c r1 (k5 36 (by decide)) (k5 37 (by decide)) (k2 60 (by decide))) k4 ((k5 39 (by decide)).trans ((q1 39 (by decide)).trans h39)) (fun j hj => by
        rw [k3]
        by_cases e : j = i
        · rw [e, up_s]
        · rw [up_n e, f1 61 (by decide)]
          exact h61 j (by omega))
      refine ⟨M', fun q hq => ?_, Fr_t (Fr_t (Fr_t (Fr_r _ _) f1 (by decide)) k2 (by decide)) g2 (by decide), Gk_t (fun x x1 x2 _ => (k5 x x2).trans (q1 x x1)) g3, g4⟩
      have g1 := g1 q hq
      refine i_aload_n rfl rfl ?_
      refine i_getf rfl rfl rfl rfl (by decide) ?_
      refine i_iload_n rfl rfl ?_
      refine i_icmp_ge_f rfl (by first | omega | assumption) ?_
      refine i_aload_n rfl rfl ?_
      refine i_getf rfl rfl rfl rfl (by decide) ?_
      refine i_if_ne_f rfl (by first | omega | assumption) ?_
      refine i_aload_n rfl rfl ?_
      refine i_aload_n rfl rfl ?_
      refine i_bipush (n := 8) rfl (by unfold iR; omega) (by decide) ?_
      -- at 93
      refine i_call (T := (132, zp_132)) rfl rfl (n8) rfl rfl rfl rfl rfl rfl rfl ?_
      try dsimp only
      show irun none zp_137 96 _ (iI (nv B (8 * i) 8) :: _) _ _ 0 0 _
      refine i_call (T := (133, zp_133)) rfl rfl (k1) rfl rfl rfl rfl rfl rfl rfl ?_
      try dsimp only
      refine i_goto rfl ?_
      -- at 74
      exact g1
    · have e3 : st0 B m all = none := by unfold st0; rw [if_neg (by omega)]
      rw [e3]
      obtain ⟨r, M1, a1, n8, f1, hr, r1, a1b, e39, q1⟩ := d_numB (b := b) (n := 8) hB hm (by omega) (by decide) (by omega)
      obtain ⟨M2, k1, k2, k3, k4, k5⟩ := d_give (b := b) (v := r) ((q1 38 (by decide) (by decide)).trans h38) (by omega)
      have e2 : M2 40 39 = 1 := (k5 39 (by decide)).trans e39
      refine ⟨M2, fun q hq => ?_, Fr_t (Fr_t (Fr_r _ _) f1 (by decide)) k2 (by decide), fun x x1 x2 x3 => (k5 x x2).trans (q1 x x1 x3), e2, i + 1, k4, by omega⟩
      refine i_aload_n rfl rfl ?_
      refine i_getf rfl rfl rfl rfl (by decide) ?_
      refine i_iload_n rfl rfl ?_
      refine i_icmp_ge_f rfl (by first | omega | assumption) ?_
      refine i_aload_n rfl rfl ?_
      refine i_getf rfl rfl rfl rfl (by decide) ?_
      refine i_if_ne_f rfl (by first | omega | assumption) ?_
      refine i_aload_n rfl rfl ?_
      refine i_aload_n rfl rfl ?_
      refine i_bipush (n := 8) rfl (by unfold iR; omega) (by decide) ?_
      -- at 93
      refine i_call (T := (132, zp_132)) rfl rfl (n8) rfl rfl rfl rfl rfl rfl rfl ?_
      try dsimp only
      show irun none zp_137 96 _ (iI (r) :: _) _ _ 0 0 _
      refine i_call (T := (133, zp_133)) rfl rfl (k1) rfl rfl rfl rfl rfl rfl rfl ?_
      try dsimp only
      refine i_goto rfl ?_
      -- at 74
      by_cases c1 : i + 1 < all
      · refine i_aload_n rfl rfl ?_
        refine i_getf rfl rfl rfl rfl (by decide) ?_
        refine i_iload_n rfl rfl ?_
        refine i_icmp_ge_f rfl (by first | omega | assumption) ?_
        refine i_aload_n rfl rfl ?_
        refine i_getf rfl rfl rfl rfl (by decide) ?_
        refine i_if_ne_t rfl (by first | omega | assumption) ?_
        -- at 120
        exact hq
      · refine i_aload_n rfl rfl ?_
        refine i_getf rfl rfl rfl rfl (by decide) ?_
        refine i_iload_n rfl rfl ?_
        refine i_icmp_ge_t rfl (by first | omega | assumption) ?_
        -- at 120
        exact hq
set_option maxRecDepth 100000 in
theorem d_decode {b : Bool} {M : iM} {T : Nat → Int} {s : Nat} (hs1 : 1 ≤ s) (hs2 : s ≤ 46) (hT : ∀ j, j < 11 * s → M 60 j = T j ∧ 0 ≤ T j ∧ T j < 256) :
    ∃ M', irun none zp_137 0 (i_ent [iP 40, iI (s : Int)] 5) [] (SH b) M 0 0 (some (ob (unp T (11 * (s : Int)))), SH b, M') ∧ Fr [40, 53, 56, 57, 61] M M' ∧ G40 M M' ∧ ∀ R, unp T (11 * (s : Int)) = some R → M' 40 38 = T 1 ∧ ∀ j : Nat, (j : Int) < T 1 → M' 61 j = R j := by
  obtain ⟨t0, t0b⟩ := hT 0 (by omega)
  obtain ⟨t1, t1b⟩ := hT 1 (by omega)
  obtain ⟨t2, t2b⟩ := hT 2 (by omega)
  obtain ⟨codec, ec⟩ := Int.eq_ofNat_of_zero_le t0b.1
  obtain ⟨all, ea⟩ := Int.eq_ofNat_of_zero_le t1b.1
  obtain ⟨m, em⟩ := Int.eq_ofNat_of_zero_le t2b.1
  have hpre : ∀ q (x : Int), (x = 0 ∨ x = 1) → irun none zp_137 58 [some (iP 40), some (iI (s : Int)), some (iI (codec : Int)), some (iI (all : Int)), none] [iI x, iP 40] (SH b) (i_st (i_st (i_st M 40 37 (m : Int)) 40 36 0) 40 38 0) 0 0 q → ((x = 1 ∧ ¬ (T 0 ≤ 3 ∧ 3 + T 2 ≤ 11 * (s : Int))) ∨ (x = 0 ∧ (T 0 ≤ 3 ∧ 3 + T 2 ≤ 11 * (s : Int)))) → irun none zp_137 0 (i_ent [iP 40, iI (s : Int)] 5) [] (SH b) M 0 0 q := by
    intro q x hx hq hc
    refine i_aload_n rfl rfl ?_
    refine i_getr rfl rfl rfl rfl (by decide) rfl ?_
    refine i_iconst (n := 0) rfl (by unfold iR; omega) ?_
    refine i_iald rfl rfl (by first | omega | assumption) (by first | omega | assumption) (by decide) ?_
    -- at 6
    show irun none zp_137 6 _ (iI (M 60 0) :: _) _ _ 0 0 _
    rw [t0, ec]
    refine i_istore_n rfl (Nat.le_of_ble_eq_true rfl) rfl ?_
    refine i_aload_n rfl rfl ?_
    refine i_getr rfl rfl rfl rfl (by decide) rfl ?_
    refine i_iconst (n := 1) rfl (by unfold iR; omega) ?_
    refine i_iald rfl rfl (by first | omega | assumption) (by first | omega | assumption) (by decide) ?_
    -- at 13
    show irun none zp_137 13 _ (iI (M 60 1) :: _) _ _ 0 0 _
    rw [t1, ea]
    refine i_istore_n rfl (Nat.le_of_ble_eq_true rfl) rfl ?_
    refine i_aload_n rfl rfl ?_
    refine i_aload_n rfl rfl ?_
    refine i_getr rfl rfl rfl rfl (by decide) rfl ?_
    refine i_iconst (n := 2) rfl (by unfold iR; omega) ?_
    refine i_iald rfl rfl (by first | omega | assumption) (by first | omega | assumption) (by decide) ?_
    -- at 21
    show irun none zp_137 21 _ (iI (M 60 2) :: _) _ _ 0 0 _
    rw [t2, em]
    by_cases c1 : (3 : Int) < codec
    · obtain rfl : x = 1 := by omega
      refine i_puti rfl rfl rfl rfl ?_
      refine i_aload_n rfl rfl ?_
      refine i_iconst (n := 0) rfl (by unfold iR; omega) ?_
      refine i_puti rfl rfl rfl rfl ?_
      refine i_aload_n rfl rfl ?_
      refine i_iconst (n := 0) rfl (by unfold iR; omega) ?_
      refine i_puti rfl rfl rfl rfl ?_
      refine i_aload_n rfl rfl ?_
      refine i_iload_n rfl rfl ?_
      refine i_iconst (n := 3) rfl (by unfold iR; omega) ?_
      refine i_icmp_gt_t rfl (by first | omega | assumption) ?_
      refine i_iconst (n := 1) rfl (by unfold iR; omega) ?_
      refine i_goto rfl ?_
      -- at 58
      exact hq
    · have e37 : (i_st (i_st (i_st M 40 37 (m : Int)) 40 36 0) 40 38 0) 40 37 = (m : Int) := rfl
      by_cases c2 : (m : Int) + 3 ≤ 11 * (s : Int)
      · obtain rfl : x = 0 := by omega
        refine i_puti rfl rfl rfl rfl ?_
        refine i_aload_n rfl rfl ?_
        refine i_iconst (n := 0) rfl (by unfold iR; omega) ?_
        refine i_puti rfl rfl rfl rfl ?_
        refine i_aload_n rfl rfl ?_
        refine i_iconst (n := 0) rfl (by unfold iR; omega) ?_
        refine i_puti rfl rfl rfl rfl ?_
        refine i_aload_n rfl rfl ?_
        refine i_iload_n rfl rfl ?_
        refine i_iconst (n := 3) rfl (by unfold iR; omega) ?_
        refine i_icmp_gt_f rfl (by first | omega | assumption) ?_
        refine i_aload_n rfl rfl ?_
        refine i_getf rfl rfl rfl rfl (by decide) ?_
        refine i_iconst (n := 3) rfl (by unfold iR; omega) ?_
        refine i_iadd rfl (by unfold iR; omega) ?_
        refine i_bipush (n := 11) rfl (by unfold iR; omega) (by decide) ?_
        refine i_iload_n rfl rfl ?_
        refine i_imul rfl (by unfold iR; omega) ?_
        refine i_icmp_le_t rfl (by first | omega | assumption) ?_
        refine i_iconst (n := 0) rfl (by unfold iR; omega) ?_
        -- at 58
        exact hq
      · obtain rfl : x = 1 := by omega
        refine i_puti rfl rfl rfl rfl ?_
        refine i_aload_n rfl rfl ?_
        refine i_iconst (n := 0) rfl (by unfold iR; omega) ?_
        refine i_puti rfl rfl rfl rfl ?_
        refine i_aload_n rfl rfl ?_
        refine i_iconst (n := 0) rfl (by unfold iR; omega) ?_
        refine i_puti rfl rfl rfl rfl ?_
        refine i_aload_n rfl rfl ?_
        refine i_iload_n rfl rfl ?_
        refine i_iconst (n := 3) rfl (by unfold iR; omega) ?_
        refine i_icmp_gt_f rfl (by first | omega | assumption) ?_
        refine i_aload_n rfl rfl ?_
        refine i_getf rfl rfl rfl rfl (by decide) ?_
        refine i_iconst (n := 3) rfl (by unfold iR; omega) ?_
        refine i_iadd rfl (by unfold iR; omega) ?_
        refine i_bipush (n := 11) rfl (by unfold iR; omega) (by decide) ?_
        refine i_iload_n rfl rfl ?_
        refine i_imul rfl (by unfold iR; omega) ?_
        refine i_icmp_le_f rfl (by first | omega | assumption) ?_
        refine i_iconst (n := 1) rfl (by unfold iR; omega) ?_
        refine i_goto rfl ?_
        -- at 58
        exact hq
  by_cases hc : T 0 ≤ 3 ∧ 3 + T 2 ≤ 11 * (s : Int)
  · have eu : unp T (11 * (s : Int)) = dcD (codec : Int) (fun k => T (3 + k)) m all := by
      unfold unp
      rw [if_pos hc, ec, em, ea]
      rfl
    rw [eu, ea]
    obtain ⟨M1, hM1⟩ : ∃ M1, M1 = i_st (i_st (i_st (i_st M 40 37 (m : Int)) 40 36 0) 40 38 0) 40 39 0 := ⟨_, rfl⟩
    have f1 : Fr [40] M M1 := by rw [hM1]; exact Fr_st (Fr_st (Fr_st (Fr_st (Fr_r _ _) (by decide)) (by decide)) (by decide)) (by decide)
    have g1 : G40 M M1 := by
      intro x hx
      rw [hM1]
      show va_up (va_up (va_up (va_up (M 40) 37 _) 36 _) 38 _) 39 _ x = _
      rw [up_n (by omega), up_n (by omega), up_n (by omega), up_n (by omega)]
    have r1 : RB M1 (fun k => T (3 + k)) m 0 := by
      refine ⟨by rw [hM1]; rfl, by rw [hM1]; rfl, fun k hk => ?_⟩
      rw [f1 60 (by decide)]
      exact (hT (3 + k) (by omega)).1
    have e38 : M1 40 38 = 0 := by rw [hM1]; rfl
    have e39 : M1 40 39 = 0 := by rw [hM1]; rfl
    have h70 : ∀ q, irun none zp_137 70 [some (iP 40), some (iI (s : Int)), some (iI (codec : Int)), some (iI (all : Int)), none] [] (SH b) M1 0 0 q → irun none zp_137 0 (i_ent [iP 40, iI (s : Int)] 5) [] (SH b) M 0 0 q := by
      intro q hq
      refine hpre q 0 (Or.inl rfl) ?_ (Or.inr ⟨rfl, hc⟩)
      rw [hM1] at hq e39
      refine i_putz rfl rfl rfl rfl (by first | omega | assumption) ?_
      refine i_aload_n rfl rfl ?_
      refine i_getf rfl rfl rfl rfl (by decide) ?_
      refine i_if_eq_t rfl (by first | omega | assumption) ?_
      -- at 70
      exact hq
    -- the end
    have hfin : ∀ (M2 : iM) (o : Option (Nat → Int)), codec ≠ 2 → dcD (codec : Int) (fun k => T (3 + k)) m all = o → Fr [40, 53, 56, 57, 61] M1 M2 → G40 M1 M2 → (∀ q, irun none zp_137 120 [some (iP 40), some (iI (s : Int)), some (iI (codec : Int)), some (iI (all : Int)), none] [] (SH b) M2 0 0 q → irun none zp_137 70 [some (iP 40), some (iI (s : Int)), some (iI (codec : Int)), some (iI (all : Int)), none] [] (SH b) M1 0 0 q) → (match o with
        | some R' => M2 40 39 = 0 ∧ M2 40 38 = (all : Int) ∧ ∀ j, j < all → M2 61 j = R' j
        | none => M2 40 39 = 1 ∧ ∃ g : Nat, M2 40 38 = (g : Int) ∧ g ≤ all) → ∃ M', irun none zp_137 0 (i_ent [iP 40, iI (s : Int)] 5) [] (SH b) M 0 0 (some (ob (dcD (codec : Int) (fun k => T (3 + k)) m all)), SH b, M') ∧ Fr [40, 53, 56, 57, 61] M M' ∧ G40 M M' ∧ ∀ R, dcD (codec : Int) (fun k => T (3 + k)) m all = some R → M' 40 38 = (all : Int) ∧ ∀ j : Nat, (j : Int) < (all : Int) → M' 61 j = R j := by
      intro M2 o hne ho f2 g2 hst hres
      rw [ho]
      refine ⟨M2, h70 _ (hst _ ?_), Fr_t (Fr_t (Fr_r _ _) f1 (by decide)) f2 (by decide), G40_t g1 g2, fun R hR => ?_⟩
      · rcases o with _ | R
        · obtain ⟨x1, g, x2, x3⟩ := hres
          exact d_nodf x2 (by omega) (fun l4 => d_dEnd (Or.inr ⟨x1, rfl⟩))
        · obtain ⟨x1, x2, x3⟩ := hres
          exact d_nodf x2 (by omega) (fun l4 => d_dEnd (Or.inl ⟨x1, rfl⟩))
      · rw [hR] at hres
        exact ⟨hres.2.1, fun j hj => hres.2.2 j (by omega)⟩
    rcases (show codec = 0 ∨ codec = 1 ∨ codec = 2 ∨ codec = 3 by omega) with c | c | c | c
    · obtain ⟨M2, k1, k2, k3, k4⟩ := d_stL (b := b) (s := (s : Int)) (show m ≤ 256 by omega) (show all ≤ 255 by omega) all 0 M1 (by omega) (by omega) r1 e38 e39 (fun j hj => by omega)
      refine hfin M2 _ (by omega) (by unfold dcD; rw [if_pos (by omega)]) (Fr_t (Fr_r _ _) k2 (by decide)) (Gk_40 k3) (fun q hq => ?_) k4
      subst c
      have := k1 q hq
      refine i_iload_n rfl rfl ?_
      refine i_if_ne_f rfl (by first | omega | assumption) ?_
      -- at 74
      exact this
    · obtain ⟨M2, k1, k2, k3, k4⟩ := d_mbL (b := b) (B := fun k => T (3 + k)) (show m ≤ 256 by omega) (show all ≤ 255 by omega) all 0 0 (fun _ => 0) none none none M1 rfl rfl (by omega) (by omega) (by omega) r1 e38 e39 (fun j hj => by omega)
      have k1 : irun none zp_134 0 (i_ent [iP 40, iI (all : Int)] 5) [] (SH b) M1 0 0 (none, SH b, M2) := k1
      refine hfin M2 (mrn (fun k => T (3 + k)) m all all 0 0 (fun _ => 0)) (by omega) (by unfold dcD; rw [if_neg (by omega), if_pos (by omega)]) (Fr_t (Fr_r _ _) k2 (by decide)) k3 (fun q hq => ?_) ?_
      · refine i_iload_n rfl rfl ?_
        refine i_if_ne_t rfl (by first | omega | assumption) ?_
        refine i_iload_n rfl rfl ?_
        refine i_iconst (n := 3) rfl (by unfold iR; omega) ?_
        refine i_icmp_ge_f rfl (by first | omega | assumption) ?_
        refine i_aload_n rfl rfl ?_
        refine i_iload_n rfl rfl ?_
        -- at 109
        refine i_call (T := (134, zp_134)) rfl rfl (k1) rfl rfl rfl rfl rfl rfl rfl ?_
        try dsimp only
        refine i_goto rfl ?_
        -- at 120
        exact hq
      · rcases hr : mrn (fun k => T (3 + k)) m all all 0 0 (fun _ => 0) with _ | R
        · rw [hr] at k4
          obtain ⟨x1, g, x2, x3, -⟩ := k4
          exact ⟨x1, g, x2, x3⟩
        · rw [hr] at k4
          exact k4
    · obtain ⟨M2, k1, k2, k3, k4⟩ := d_mbL (b := b) (B := fun k => T (3 + k)) (show m ≤ 256 by omega) (show all ≤ 255 by omega) all 0 0 (fun _ => 0) none none none M1 rfl rfl (by omega) (by omega) (by omega) r1 e38 e39 (fun j hj => by omega)
      have k1 : irun none zp_134 0 (i_ent [iP 40, iI (all : Int)] 5) [] (SH b) M1 0 0 (none, SH b, M2) := k1
      have ed : dcD (codec : Int) (fun k => T (3 + k)) m all = (mrn (fun k => T (3 + k)) m all all 0 0 (fun _ => 0)).map (fun R => dfN R all) := by
        unfold dcD
        rw [if_neg (by omega), if_neg (by omega), if_pos (by omega)]
      have gMC := mrn_b (B := fun k => T (3 + k)) (m := m) (all := all) all 0 0 (fun _ => 0) (by omega) (fun j hj => by omega)
      have h120 : ∀ q, irun none zp_137 120 [some (iP 40), some (iI (s : Int)), some (iI 2), some (iI (all : Int)), none] [] (SH b) M2 0 0 q → irun none zp_137 70 [some (iP 40), some (iI (s : Int)), some (iI (codec : Int)), some (iI (all : Int)), none] [] (SH b) M1 0 0 q := by
        intro q hq
        subst c
        refine i_iload_n rfl rfl ?_
        refine i_if_ne_t rfl (by first | omega | assumption) ?_
        refine i_iload_n rfl rfl ?_
        refine i_iconst (n := 3) rfl (by unfold iR; omega) ?_
        refine i_icmp_ge_f rfl (by first | omega | assumption) ?_
        refine i_aload_n rfl rfl ?_
        refine i_iload_n rfl rfl ?_
        -- at 109
        refine i_call (T := (134, zp_134)) rfl rfl (k1) rfl rfl rfl rfl rfl rfl rfl ?_
        try dsimp only
        refine i_goto rfl ?_
        -- at 120
        exact hq
      rw [ed]
      rcases hr : mrn (fun k => T (3 + k)) m all all 0 0 (fun _ => 0) with _ | R
      · rw [hr] at k4
        obtain ⟨x1, g, x2, x3, x4⟩ := k4
        refine ⟨va_up M2 61 (dfN (M2 61) g), h70 _ (h120 _ ?_), Fr_up (Fr_t (Fr_t (Fr_r _ _) f1 (by decide)) k2 (by decide)) (by decide), G40_t g1 k3, fun R hR => by cases hR⟩
        exact d_dfL x2 (by omega) x4 (fun l4 => d_dEnd (Or.inr ⟨x1, rfl⟩))
      · rw [hr] at k4
        obtain ⟨x1, x2, x3⟩ := k4
        have x4 : ∀ j, j < all → M2 61 j = R j ∧ 0 ≤ R j ∧ R j < 256 := fun j hj => ⟨x3 j hj, gMC R hr j hj⟩
        refine ⟨va_up M2 61 (dfN (M2 61) all), h70 _ (h120 _ ?_), Fr_up (Fr_t (Fr_t (Fr_r _ _) f1 (by decide)) k2 (by decide)) (by decide), G40_t g1 k3, fun R' hR => ?_⟩
        · exact d_dfL x2 (by omega) (fun j hj => by rw [(x4 j hj).1]; exact (x4 j hj).2) (fun l4 => d_dEnd (Or.inl ⟨x1, rfl⟩))
        · cases hR
          exact ⟨x2, fun j hj => (dfN_c x4 all (Nat.le_refl _) j (by omega)).1⟩
    · obtain ⟨M2, k1, k2, k3, k4⟩ := d_pback (b := b) r1 (show m ≤ 256 by omega) (show all ≤ 255 by omega) e38 e39
      refine hfin M2 _ (by omega) (by unfold dcD; rw [if_neg (by omega), if_neg (by omega), if_neg (by omega)]) k2 k3 (fun q hq => ?_) k4
      subst c
      refine i_iload_n rfl rfl ?_
      refine i_if_ne_t rfl (by first | omega | assumption) ?_
      refine i_iload_n rfl rfl ?_
      refine i_iconst (n := 3) rfl (by unfold iR; omega) ?_
      refine i_icmp_ge_t rfl (by first | omega | assumption) ?_
      refine i_aload_n rfl rfl ?_
      refine i_iload_n rfl rfl ?_
      -- at 117
      refine i_call (T := (135, zp_135)) rfl rfl (k1) rfl rfl rfl rfl rfl rfl rfl ?_
      try dsimp only
      exact hq
  · have eu : unp T (11 * (s : Int)) = none := by
      unfold unp
      rw [if_neg hc]
    rw [eu]
    refine ⟨i_st (i_st (i_st (i_st M 40 37 (m : Int)) 40 36 0) 40 38 0) 40 39 1, hpre _ 1 (Or.inr rfl) ?_ (Or.inl ⟨rfl, hc⟩), Fr_st (Fr_st (Fr_st (Fr_st (Fr_r _ _) (by decide)) (by decide)) (by decide)) (by decide), fun x hx => ?_, fun R hR => by cases hR⟩
    · have e39 : (i_st (i_st (i_st (i_st M 40 37 (m : Int)) 40 36 0) 40 38 0) 40 39 1) 40 39 = 1 := rfl
      refine i_putz rfl rfl rfl rfl (by first | omega | assumption) ?_
      refine i_aload_n rfl rfl ?_
      refine i_getf rfl rfl rfl rfl (by decide) ?_
      refine i_if_eq_f rfl (by first | omega | assumption) ?_
      refine i_iconst (n := 0) rfl (by unfold iR; omega) ?_
      -- at 69
      exact i_zreturn rfl rfl (by first | omega | assumption)
    · show va_up (va_up (va_up (va_up (M 40) 37 _) 36 _) 38 _) 39 _ x = _
      rw [up_n (by omega), up_n (by omega), up_n (by omega), up_n (by omega)]
