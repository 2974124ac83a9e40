/-- the reference's fields that a decoding doesn't touch -/
def G40 (M M' : iM) : Prop := ∀ k, (k < 26 ∨ 39 < k) → M' 40 k = M 40 k
theorem G40_t {M M' M'' : iM} (h : G40 M M') (h' : G40 M' M'') : G40 M M'' := fun k hk => (h' k hk).trans (h k hk)
theorem d_numG {b : Bool} {M : iM} {B : Nat → Int} {m a n : Nat} (hB : RB M B m a) (hm : m ≤ 256) (hn : n ≤ 12) (h : a + n ≤ 8 * m) : ∃ M', irun none zp_132 0 (i_ent [iP 40, iI (n : Int)] 4) [] (SH b) M 0 0 (some (nv B a n), SH b, M') ∧ Fr [40] M M' ∧ RB M' B m (a + n) ∧ ∀ k, k ≠ 36 → M' 40 k = M 40 k :=
  ⟨_, d_num hB hm hn h, Fr_up (Fr_r _ _) (by decide), ⟨rfl, hB.2.1, hB.2.2⟩, fun k hk => up_n hk⟩
theorem d_numB {b : Bool} {M : iM} {B : Nat → Int} {m a n : Nat} (hB : RB M B m a) (hm : m ≤ 256) (ha : a ≤ 8 * m) (hn : n ≤ 12) (h : 8 * m < a + n ∨ M 40 39 = 1) : ∃ (r : Int) (M' : iM) (a' : Nat), irun none zp_132 0 (i_ent [iP 40, iI (n : Int)] 4) [] (SH b) M 0 0 (some r, SH b, M') ∧ Fr [40] M M' ∧ (0 ≤ r ∧ r < 2 ^ n) ∧ RB M' B m a' ∧ a' ≤ 8 * m ∧ M' 40 39 = 1 ∧ ∀ k, k ≠ 36 → k ≠ 39 → M' 40 k = M 40 k := by
  obtain ⟨r, Q, a', h1, h2, h3, h4, h5, h6⟩ := d_numF (b := b) hB hm ha hn h
  exact ⟨r, _, a', h1, Fr_up (Fr_r _ _) (by decide), h2, ⟨h3, (h6 37 (by decide) (by decide)).trans hB.2.1, hB.2.2⟩, h4, h5, h6⟩
set_option maxRecDepth 100000 in
theorem d_give {b : Bool} {M : iM} {g : Nat} {v : Int} (hg : M 40 38 = (g : Int)) (h : g < 256) : ∃ M', irun none zp_133 0 (i_ent [iP 40, iI v] 2) [] (SH b) M 0 0 (none, SH b, M') ∧ Fr [40, 61] M M' ∧ M' 61 = va_up (M 61) g v ∧ M' 40 38 = ((g + 1 : Nat) : Int) ∧ ∀ k, k ≠ 38 → M' 40 k = M 40 k := by
  refine ⟨i_st (i_st M 61 g v) 40 38 ((g : Int) + 1), ?_, Fr_st (Fr_st (Fr_r _ _) (by decide)) (by decide), rfl, rfl, fun k hk => up_n hk⟩
  refine i_aload_n rfl rfl ?_
  refine i_getr rfl rfl rfl rfl (by decide) rfl ?_
  refine i_aload_n rfl rfl ?_
  refine i_getf rfl rfl rfl rfl (by decide) ?_
  refine i_iload_n rfl rfl ?_
  -- at 9
  rw [hg]
  refine i_iast rfl rfl (by first | omega | assumption) (by first | omega | assumption) ?_
  refine i_aload_n rfl rfl ?_
  first | refine i_dup rfl ?_ | refine i_dupr rfl ?_
  refine i_getf rfl rfl rfl rfl (by decide) ?_
  -- at 15
  show irun none zp_133 15 _ (iI (M 40 38) :: _) _ _ 0 0 _
  rw [hg, show (g : Int).toNat = g by omega]
  refine i_iconst (n := 1) rfl (by unfold iR; omega) ?_
  refine i_iadd rfl (by unfold iR; omega) ?_
  refine i_puti rfl rfl rfl rfl ?_
  -- at 20
  exact i_vreturn rfl rfl
/-- a decoding that has failed -/
def Bd (M : iM) (all : Nat) : Prop := M 40 39 = 1 ∧ (∃ g : Nat, M 40 38 = (g : Int) ∧ g ≤ all ∧ ∀ j, j < g → 0 ≤ M 61 j ∧ M 61 j < 256)
set_option maxRecDepth 100000 in
theorem d_mbE {b : Bool} {M : iM} {all : Nat} {l2 l3 l4 : Option iV} (h : Bd M all) : irun none zp_134 0 [some (iP 40), some (iI (all : Int)), l2, l3, l4] [] (SH b) M 0 0 (none, SH b, M) := by
  obtain ⟨h1, g, h2, h3, -⟩ := h
  by_cases c : g < all
  · refine i_aload_n rfl rfl ?_
    refine i_getf rfl rfl rfl rfl (by decide) ?_
    refine i_iload_n rfl rfl ?_
    refine i_icmp_ge_f rfl (by first | omega | assumption) ?_
    refine i_aload_n rfl rfl ?_
    refine i_getf rfl rfl rfl rfl (by decide) ?_
    refine i_if_ne_t rfl (by first | omega | assumption) ?_
    -- at 125
    exact i_vreturn rfl rfl
  · refine i_aload_n rfl rfl ?_
    refine i_getf rfl rfl rfl rfl (by decide) ?_
    refine i_iload_n rfl rfl ?_
    refine i_icmp_ge_t rfl (by first | omega | assumption) ?_
    -- at 125
    exact i_vreturn rfl rfl
theorem RB_c {M M' : iM} {B : Nat → Int} {m a : Nat} (h : RB M B m a) (h1 : M' 40 36 = M 40 36) (h2 : M' 40 37 = M 40 37) (h3 : M' 60 = M 60) : RB M' B m a := ⟨h1.trans h.1, h2.trans h.2.1, by rw [h3]; exact h.2.2⟩
set_option maxRecDepth 100000 in
theorem d_mbG {b : Bool} {all d t l : Nat} {q : Option Int × List zS × iM} (hd : d + l ≤ all) (hall : all ≤ 255) (ht : 1 ≤ t) (htd : t ≤ d) : ∀ (c i : Nat) (M M0 : iM), i + c = l → M 40 38 = ((d + i : Nat) : Int) → M 40 39 = 0 → M 61 = mcp (M0 61) d t i →
    ∃ M', ((irun none zp_134 0 [some (iP 40), some (iI (all : Int)), some (iI (t : Int)), some (iI (l : Int)), some (iI (l : Int))] [] (SH b) M' 0 0 q) → irun none zp_134 88 [some (iP 40), some (iI (all : Int)), some (iI (t : Int)), some (iI (l : Int)), some (iI (i : Int))] [] (SH b) M 0 0 q) ∧ Fr [40, 61] M M' ∧ M' 40 38 = ((d + l : Nat) : Int) ∧ M' 61 = mcp (M0 61) d t l ∧ ∀ k, k ≠ 38 → M' 40 k = M 40 k := by
  intro c
  induction c with
  | zero =>
    intro i M M0 hi h1 h2 h3
    obtain rfl : i = l := by omega
    refine ⟨M, fun hq => ?_, Fr_r _ _, h1, h3, fun _ _ => rfl⟩
    refine i_iload rfl rfl ?_
    refine i_iload_n rfl rfl ?_
    refine i_icmp_ge_t rfl (by first | omega | assumption) ?_
    refine i_goto rfl ?_
    -- at 0
    exact hq
  | succ c ih =>
    intro i M M0 hi h1 h2 h3
    obtain ⟨M1, g1, g2, g3, g4, g5⟩ := d_give (b := b) (v := M 61 (d + i - t)) h1 (by omega)
    obtain ⟨M', k1, k2, k3, k4, k5⟩ := ih (i + 1) M1 M0 (by omega) g4 ((g5 39 (by decide)).trans h2) (by
      rw [g3, h3]
      rfl)
    refine ⟨M', fun hq => ?_, Fr_t g2 k2 (by decide), k3, k4, fun k hk => (k5 k hk).trans (g5 k hk)⟩
    refine i_iload rfl rfl ?_
    refine i_iload_n rfl rfl ?_
    refine i_icmp_ge_f rfl (by first | omega | assumption) ?_
    refine i_aload_n rfl rfl ?_
    refine i_getf rfl rfl rfl rfl (by decide) ?_
    refine i_if_ne_f rfl (by first | omega | assumption) ?_
    refine i_aload_n rfl rfl ?_
    refine i_aload_n rfl rfl ?_
    refine i_getr rfl rfl rfl rfl (by decide) rfl ?_
    refine i_aload_n rfl rfl ?_
    refine i_getf rfl rfl rfl rfl (by decide) ?_
    refine i_iload_n rfl rfl ?_
    -- at 111
    rw [h1]
    refine i_isub rfl (by unfold iR; omega) ?_
    refine i_iald rfl rfl (by first | omega | assumption) (by first | omega | assumption) (by decide) ?_
    -- at 113
    rw [show (((d + i : Nat) : Int) - (t : Int)).toNat = d + i - t by omega]
    refine i_call (T := (133, zp_133)) rfl rfl (g1) rfl rfl rfl rfl rfl rfl rfl ?_
    try dsimp only
    refine i_iinc rfl rfl (by unfold iR; omega) (Nat.le_of_ble_eq_true rfl) rfl ?_
    refine i_goto rfl ?_
    -- at 88
    exact k1 hq
set_option maxRecDepth 100000 in
theorem d_mbL {b : Bool} {B : Nat → Int} {m all : Nat} (hm : m ≤ 256) (hall : all ≤ 255) : ∀ (c d a : Nat) (R : Nat → Int) (l2 l3 l4 : Option iV) (M : iM), i_free [some (iP 40), some (iI (all : Int)), l2, l3, l4] 3 = true → i_free [some (iP 40), some (iI (all : Int)), l2, l3, l4] 4 = true → all ≤ d + c → d ≤ all → a ≤ 8 * m → RB M B m a → M 40 38 = (d : Int) → M 40 39 = 0 → (∀ j, j < d → M 61 j = R j ∧ 0 ≤ R j ∧ R j < 256) →
    ∃ M', irun none zp_134 0 [some (iP 40), some (iI (all : Int)), l2, l3, l4] [] (SH b) M 0 0 (none, SH b, M') ∧ Fr [40, 61] M M' ∧ G40 M M' ∧ (match mrn B m all c d a R with
      | some R' => M' 40 39 = 0 ∧ M' 40 38 = (all : Int) ∧ ∀ j, j < all → M' 61 j = R' j
      | none => Bd M' all) := by
  have done : ∀ (c d a : Nat) (R : Nat → Int) (l2 l3 l4 : Option iV) (M : iM), ¬ d < all → d ≤ all → M 40 38 = (d : Int) → M 40 39 = 0 → (∀ j, j < d → M 61 j = R j ∧ 0 ≤ R j ∧ R j < 256) → ∃ M', irun none zp_134 0 [some (iP 40), some (iI (all : Int)), l2, l3, l4] [] (SH b) M 0 0 (none, SH b, M') ∧ Fr [40, 61] M M' ∧ G40 M M' ∧ (match mrn B m all c d a R with
      | some R' => M' 40 39 = 0 ∧ M' 40 38 = (all : Int) ∧ ∀ j, j < all → M' 61 j = R' j
      | none => Bd M' all) := by
    intro c d a R l2 l3 l4 M h1 h2 h3 h4 h5
    rw [mrn_e h1]
    refine ⟨M, ?_, Fr_r _ _, fun _ _ => rfl, h4, by omega, fun j hj => (h5 j (by omega)).1⟩
    refine i_aload_n rfl rfl ?_
    refine i_getf rfl rfl rfl rfl (by decide) ?_
    refine i_iload_n rfl rfl ?_
    refine i_icmp_ge_t rfl (by first | omega | assumption) ?_
    -- at 125
    exact i_vreturn rfl rfl
  intro c
  induction c with
  | zero =>
    intro d a R l2 l3 l4 M z3 z4 h1 h2 h3 h4 h5 h6 h7
    exact done 0 d a R l2 l3 l4 M (by omega) h2 h5 h6 h7
  | succ c ih =>
    intro d a R l2 l3 l4 M z3 z4 h1 h2 h3 h4 h5 h6 h7
    by_cases hd : d < all
    · have hbd : ∀ (r : Int) (M1 : iM), Fr [40] M M1 → 0 ≤ r → r < 256 → M1 40 38 = (d : Int) → M1 40 39 = 1 → (∀ k, (k < 26 ∨ 39 < k) → M1 40 k = M 40 k) → mst B m all d a R = none → (∀ q, irun none zp_134 29 [some (iP 40), some (iI (all : Int)), l2, l3, l4] [iI r, iP 40] (SH b) M1 0 0 q → irun none zp_134 0 [some (iP 40), some (iI (all : Int)), l2, l3, l4] [] (SH b) M 0 0 q) → ∃ M', irun none zp_134 0 [some (iP 40), some (iI (all : Int)), l2, l3, l4] [] (SH b) M 0 0 (none, SH b, M') ∧ Fr [40, 61] M M' ∧ G40 M M' ∧ (match mrn B m all (c + 1) d a R with
          | some R' => M' 40 39 = 0 ∧ M' 40 38 = (all : Int) ∧ ∀ j, j < all → M' 61 j = R' j
          | none => Bd M' all) := by
        intro r M1 f1 r0 r1 e38 e39 eg hms hcont
        rw [mrn_n hd hms]
        obtain ⟨M2, k1, k2, k3, k4, k5⟩ := d_give (b := b) (v := r) e38 (by omega)
        have hB2 : Bd M2 all := by
          refine ⟨(k5 39 (by decide)).trans e39, d + 1, k4, by omega, fun j hj => ?_⟩
          rw [k3]
          by_cases e : j = d
          · rw [e, up_s]; exact ⟨r0, r1⟩
          · rw [up_n e, f1 61 (by decide), (h7 j (by omega)).1]
            exact (h7 j (by omega)).2
        refine ⟨M2, hcont _ ?_, Fr_t (Fr_t (Fr_r _ _) f1 (by decide)) k2 (by decide), fun k hk => (k5 k (by omega)).trans (eg k hk), hB2⟩
        refine i_call (T := (133, zp_133)) rfl rfl (k1) rfl rfl rfl rfl rfl rfl rfl ?_
        try dsimp only
        refine i_goto rfl ?_
        -- at 0
        exact d_mbE hB2
      by_cases ha : a < 8 * m
      · have hb := d_bit (b := b) h4 hm ha
        obtain ⟨M1, hM1⟩ : ∃ M1, M1 = va_up M 40 (va_up (M 40) 36 ((a + 1 : Nat) : Int)) := ⟨_, rfl⟩
        rw [← hM1] at hb
        have f1 : Fr [40] M M1 := by rw [hM1]; exact Fr_up (Fr_r _ _) (by decide)
        have r1 : RB M1 B m (a + 1) := by rw [hM1]; exact ⟨rfl, h4.2.1, h4.2.2⟩
        have q1 : ∀ k, k ≠ 36 → M1 40 k = M 40 k := fun k hk => by rw [hM1]; exact up_n hk
        have vb := bt_b B a
        by_cases hbit : bt B a = 1
        · rw [hbit] at hb
          have hk0 : ∀ q (M3 : iM) (x y : Int), 0 ≤ x → x < 16 → 0 ≤ y → y < 8 → ∀ M2 : iM, irun none zp_132 0 (i_ent [iP 40, iI ((4 : Nat) : Int)] 4) [] (SH b) M1 0 0 (some x, SH b, M2) → irun none zp_132 0 (i_ent [iP 40, iI ((3 : Nat) : Int)] 4) [] (SH b) M2 0 0 (some y, SH b, M3) → irun none zp_134 51 [some (iP 40), some (iI (all : Int)), some (iI (x + 1)), some (iI (y + 2)), l4] [] (SH b) M3 0 0 q → irun none zp_134 0 [some (iP 40), some (iI (all : Int)), l2, l3, l4] [] (SH b) M 0 0 q := by
            intro q M3 x y x0 x1 y0 y1 M2 n4 n3 hq
            refine i_aload_n rfl rfl ?_
            refine i_getf rfl rfl rfl rfl (by decide) ?_
            refine i_iload_n rfl rfl ?_
            refine i_icmp_ge_f rfl (by first | omega | assumption) ?_
            refine i_aload_n rfl rfl ?_
            refine i_getf rfl rfl rfl rfl (by decide) ?_
            refine i_if_ne_f rfl (by first | omega | assumption) ?_
            refine i_aload_n rfl rfl ?_
            -- at 16
            refine i_call (T := (131, zp_131)) rfl rfl (hb) rfl rfl rfl rfl rfl rfl rfl ?_
            try dsimp only
            show irun none zp_134 19 _ (iI (1) :: _) _ _ 0 0 _
            refine i_if_ne_t rfl (by first | omega | assumption) ?_
            refine i_aload_n rfl rfl ?_
            refine i_iconst (n := 4) rfl (by unfold iR; omega) ?_
            -- at 37
            refine i_call (T := (132, zp_132)) rfl rfl (n4) rfl rfl rfl rfl rfl rfl rfl ?_
            try dsimp only
            show irun none zp_134 40 _ (iI (x) :: _) _ _ 0 0 _
            refine i_iconst (n := 1) rfl (by unfold iR; omega) ?_
            refine i_iadd rfl (by unfold iR; omega) ?_
            refine i_istore_n rfl (Nat.le_of_ble_eq_true rfl) rfl ?_
            refine i_aload_n rfl rfl ?_
            refine i_iconst (n := 3) rfl (by unfold iR; omega) ?_
            -- at 45
            refine i_call (T := (132, zp_132)) rfl rfl (n3) rfl rfl rfl rfl rfl rfl rfl ?_
            try dsimp only
            show irun none zp_134 48 _ (iI (y) :: _) _ _ 0 0 _
            refine i_iconst (n := 2) rfl (by unfold iR; omega) ?_
            refine i_iadd rfl (by unfold iR; omega) ?_
            refine i_istore_n rfl (Nat.le_of_ble_eq_true rfl) rfl ?_
            -- at 51
            exact hq
          have hend : ∀ (M3 : iM) (x y : Int), 0 ≤ y → y < 8 → M3 40 38 = (d : Int) → M3 61 = M 61 → irun none zp_134 82 [some (iP 40), some (iI (all : Int)), some (iI (x + 1)), some (iI (y + 2)), l4] [iI 1, iP 40] (SH b) M3 0 0 (none, SH b, i_st M3 40 39 1) := by
            intro M3 x y y0 y1 e38 e61
            refine i_putz rfl rfl rfl rfl (by first | omega | assumption) ?_
            refine i_iconst (n := 0) rfl (by unfold iR; omega) ?_
            refine i_istore rfl (Nat.le_of_ble_eq_true rfl) rfl ?_
            -- at 88
            have hB : Bd (i_st M3 40 39 1) all := ⟨rfl, d, e38, by omega, fun j hj => by
              show 0 ≤ M3 61 j ∧ M3 61 j < 256
              rw [e61, (h7 j hj).1]
              exact (h7 j hj).2⟩
            have hb9 : (i_st M3 40 39 1) 40 39 = 1 := rfl
            refine i_iload rfl rfl ?_
            refine i_iload_n rfl rfl ?_
            refine i_icmp_ge_f rfl (by first | omega | assumption) ?_
            refine i_aload_n rfl rfl ?_
            refine i_getf rfl rfl rfl rfl (by decide) ?_
            refine i_if_ne_t rfl (by first | omega | assumption) ?_
            refine i_goto rfl ?_
            -- at 0
            exact d_mbE hB
          by_cases h8 : a + 8 ≤ 8 * m
          · obtain ⟨M2, n4, f2, r2, q2⟩ := d_numG (b := b) (n := 4) r1 hm (by decide) (by omega)
            obtain ⟨M3, n3, f3, r3, q3⟩ := d_numG (b := b) (n := 3) r2 hm (by decide) (by omega)
            rw [show a + 1 + 4 = a + 5 from rfl] at n3 r3
            rw [show a + 5 + 3 = a + 8 from rfl] at r3
            have v4 := nv_b B (a + 1) 4
            have v3 := nv_b B (a + 5) 3
            obtain ⟨t, et⟩ := Int.eq_ofNat_of_zero_le v4.1
            obtain ⟨l, el⟩ := Int.eq_ofNat_of_zero_le v3.1
            have v4b : nv B (a + 1) 4 < 16 := v4.2
            have v3b : nv B (a + 5) 3 < 8 := v3.2
            have q13 : ∀ k, k ≠ 36 → M3 40 k = M 40 k := fun k hk => (q3 k hk).trans ((q2 k hk).trans (q1 k hk))
            have f13 : Fr [40] M M3 := Fr_t (Fr_t f1 f2 (by decide)) f3 (by decide)
            have e39 : M3 40 39 = 0 := (q13 39 (by decide)).trans h6
            have e38 : M3 40 38 = (d : Int) := (q13 38 (by decide)).trans h5
            by_cases hk : nv B (a + 1) 4 + 1 ≤ d ∧ d + (nv B (a + 5) 3 + 2) ≤ all
            · have hms : mst B m all d a R = some (d + ((nv B (a + 5) 3).toNat + 2), a + 8, mcp R d ((nv B (a + 1) 4).toNat + 1) ((nv B (a + 5) 3).toNat + 2)) := by
                unfold mst
                rw [if_pos ⟨ha, hbit⟩, if_pos ⟨h8, hk⟩]
              rw [et, el] at hms hk
              rw [show ((t : Int)).toNat = t by omega, show ((l : Int)).toNat = l by omega] at hms
              rw [mrn_s hd hms]
              rw [et] at n4 v4b
              rw [el] at n3 v3b
              have e61 : (i_st M3 40 39 0) 61 = mcp (M 61) d (t + 1) 0 := f13 61 (by decide)
              have hx : ∀ q, ∃ M4, ((irun none zp_134 0 [some (iP 40), some (iI (all : Int)), some (iI ((t + 1 : Nat) : Int)), some (iI ((l + 2 : Nat) : Int)), some (iI ((l + 2 : Nat) : Int))] [] (SH b) M4 0 0 q) → irun none zp_134 0 [some (iP 40), some (iI (all : Int)), l2, l3, l4] [] (SH b) M 0 0 q) ∧ Fr [40, 61] (i_st M3 40 39 0) M4 ∧ M4 40 38 = ((d + (l + 2) : Nat) : Int) ∧ M4 61 = mcp (M 61) d (t + 1) (l + 2) ∧ ∀ k, k ≠ 38 → M4 40 k = (i_st M3 40 39 0) 40 k := by
                intro q
                obtain ⟨M4, k1, k2⟩ := d_mbG (b := b) (q := q) (all := all) (d := d) (t := t + 1) (l := l + 2) (by omega) hall (by omega) (by omega) (l + 2) 0 (i_st M3 40 39 0) M (by omega) e38 rfl e61
                refine ⟨M4, fun hq => hk0 q M3 (t : Int) (l : Int) (by omega) (by omega) (by omega) (by omega) M2 n4 n3 ?_, k2⟩
                have k1 := k1 hq
                refine i_aload_n rfl rfl ?_
                refine i_aload_n rfl rfl ?_
                refine i_getf rfl rfl rfl rfl (by decide) ?_
                refine i_if_ne_f rfl (by first | omega | assumption) ?_
                refine i_iload_n rfl rfl ?_
                refine i_aload_n rfl rfl ?_
                refine i_getf rfl rfl rfl rfl (by decide) ?_
                refine i_icmp_gt_f rfl (by first | omega | assumption) ?_
                refine i_aload_n rfl rfl ?_
                refine i_getf rfl rfl rfl rfl (by decide) ?_
                refine i_iload_n rfl rfl ?_
                refine i_iadd rfl (by unfold iR; omega) ?_
                refine i_iload_n rfl rfl ?_
                refine i_icmp_le_t rfl (by first | omega | assumption) ?_
                refine i_iconst (n := 0) rfl (by unfold iR; omega) ?_
                refine i_putz rfl rfl rfl rfl (by first | omega | assumption) ?_
                refine i_iconst (n := 0) rfl (by unfold iR; omega) ?_
                refine i_istore rfl (Nat.le_of_ble_eq_true rfl) rfl ?_
                -- at 88
                exact k1
              obtain ⟨M4, -, k2, k3, k4, k5⟩ := hx (none, SH b, M)
              have pq : ∀ (M4 : iM), Fr [40, 61] (i_st M3 40 39 0) M4 → M4 40 38 = ((d + (l + 2) : Nat) : Int) → M4 61 = mcp (M 61) d (t + 1) (l + 2) → (∀ k, k ≠ 38 → M4 40 k = (i_st M3 40 39 0) 40 k) → RB M4 B m (a + 8) ∧ M4 40 39 = 0 ∧ Fr [40, 61] M M4 ∧ G40 M M4 := by
                intro M4 k2 k3 k4 k5
                refine ⟨RB_c r3 ?_ ?_ ?_, k5 39 (by decide), Fr_t (Fr_st (Fr_t (Fr_r _ _) f13 (by decide)) (by decide)) k2 (by decide), fun k hk => ?_⟩
                · exact k5 36 (by decide)
                · exact k5 37 (by decide)
                · exact k2 60 (by decide)
                · rw [k5 k (by omega)]
                  show va_up (M3 40) 39 0 k = _
                  rw [up_n (by omega)]
                  exact q13 k (by omega)
              obtain ⟨p1, p2, p3, p4⟩ := pq M4 k2 k3 k4 k5
              obtain ⟨M5, g1, g2, g3, g4⟩ := ih (d + (l + 2)) (a + 8) (mcp R d (t + 1) (l + 2)) (some (iI ((t + 1 : Nat) : Int))) (some (iI ((l + 2 : Nat) : Int))) (some (iI ((l + 2 : Nat) : Int))) M4 rfl rfl (by omega) (by omega) (by omega) p1 k3 p2 (fun j hj => by
                rw [k4]
                exact mcp_c (by omega) (by omega) h7 hj)
              obtain ⟨M6, j1, j2, j3, j4, j5⟩ := hx (none, SH b, M5)
              refine ⟨M5, j1 ?_, Fr_t p3 g2 (by decide), G40_t p4 g3, g4⟩
              have e46 : M6 = M4 := by
                funext x
                by_cases x1 : x = 40
                · funext y
                  rw [x1]
                  by_cases y1 : y = 38
                  · rw [y1, j3, k3]
                  · rw [j5 y y1, k5 y y1]
                · by_cases x2 : x = 61
                  · rw [x2, j4, k4]
                  · rw [j2 x (by simp [x1, x2]), k2 x (by simp [x1, x2])]
              rw [e46]
              exact g1
            · have hms : mst B m all d a R = none := by
                unfold mst
                rw [if_pos ⟨ha, hbit⟩, if_neg (fun q => hk q.2)]
              rw [mrn_n hd hms]
              have hB : Bd (i_st M3 40 39 1) all := ⟨rfl, d, e38, by omega, fun j hj => by
                show 0 ≤ M3 61 j ∧ M3 61 j < 256
                rw [f13 61 (by decide), (h7 j hj).1]
                exact (h7 j hj).2⟩
              refine ⟨i_st M3 40 39 1, hk0 _ M3 _ _ v4.1 v4b v3.1 v3b M2 n4 n3 ?_, Fr_st (Fr_t (Fr_r _ _) f13 (by decide)) (by decide), fun k hk => ?_, hB⟩
              · by_cases c1 : (d : Int) < nv B (a + 1) 4 + 1
                · refine i_aload_n rfl rfl ?_
                  refine i_aload_n rfl rfl ?_
                  refine i_getf rfl rfl rfl rfl (by decide) ?_
                  refine i_if_ne_f rfl (by first | omega | assumption) ?_
                  refine i_iload_n rfl rfl ?_
                  refine i_aload_n rfl rfl ?_
                  refine i_getf rfl rfl rfl rfl (by decide) ?_
                  refine i_icmp_gt_t rfl (by first | omega | assumption) ?_
                  refine i_iconst (n := 1) rfl (by unfold iR; omega) ?_
                  refine i_goto rfl ?_
                  -- at 82
                  exact hend M3 _ _ v3.1 v3b e38 (f13 61 (by decide))
                · refine i_aload_n rfl rfl ?_
                  refine i_aload_n rfl rfl ?_
                  refine i_getf rfl rfl rfl rfl (by decide) ?_
                  refine i_if_ne_f rfl (by first | omega | assumption) ?_
                  refine i_iload_n rfl rfl ?_
                  refine i_aload_n rfl rfl ?_
                  refine i_getf rfl rfl rfl rfl (by decide) ?_
                  refine i_icmp_gt_f rfl (by first | omega | assumption) ?_
                  refine i_aload_n rfl rfl ?_
                  refine i_getf rfl rfl rfl rfl (by decide) ?_
                  refine i_iload_n rfl rfl ?_
                  refine i_iadd rfl (by unfold iR; omega) ?_
                  refine i_iload_n rfl rfl ?_
                  refine i_icmp_le_f rfl (by first | omega | assumption) ?_
                  refine i_iconst (n := 1) rfl (by unfold iR; omega) ?_
                  refine i_goto rfl ?_
                  -- at 82
                  exact hend M3 _ _ v3.1 v3b e38 (f13 61 (by decide))
              · show va_up (M3 40) 39 1 k = _
                rw [up_n (by omega)]
                exact q13 k (by omega)
          · have hms : mst B m all d a R = none := by
              unfold mst
              rw [if_pos ⟨ha, hbit⟩, if_neg (fun q => h8 q.1)]
            have hfin : ∀ (M2 M3 : iM) (x y : Int) (a' : Nat), 0 ≤ x → x < 16 → 0 ≤ y → y < 8 → irun none zp_132 0 (i_ent [iP 40, iI ((4 : Nat) : Int)] 4) [] (SH b) M1 0 0 (some x, SH b, M2) → irun none zp_132 0 (i_ent [iP 40, iI ((3 : Nat) : Int)] 4) [] (SH b) M2 0 0 (some y, SH b, M3) → Fr [40] M M3 → M3 40 39 = 1 → (∀ k, k ≠ 36 → k ≠ 39 → M3 40 k = M 40 k) → ∃ M', irun none zp_134 0 [some (iP 40), some (iI (all : Int)), l2, l3, l4] [] (SH b) M 0 0 (none, SH b, M') ∧ Fr [40, 61] M M' ∧ G40 M M' ∧ (match mrn B m all (c + 1) d a R with
                | some R' => M' 40 39 = 0 ∧ M' 40 38 = (all : Int) ∧ ∀ j, j < all → M' 61 j = R' j
                | none => Bd M' all) := by
              intro M2 M3 x y a' x0 x1 y0 y1 n4 n3 f13 e39 q13
              have e38 : M3 40 38 = (d : Int) := (q13 38 (by decide) (by decide)).trans h5
              rw [mrn_n hd hms]
              have hB : Bd (i_st M3 40 39 1) all := ⟨rfl, d, e38, by omega, fun j hj => by
                show 0 ≤ M3 61 j ∧ M3 61 j < 256
                rw [f13 61 (by decide), (h7 j hj).1]
                exact (h7 j hj).2⟩
              refine ⟨i_st M3 40 39 1, hk0 _ M3 _ _ x0 x1 y0 y1 M2 n4 n3 ?_, Fr_st (Fr_t (Fr_r _ _) f13 (by decide)) (by decide), fun k hk => ?_, hB⟩
              · refine i_aload_n rfl rfl ?_
                refine i_aload_n rfl rfl ?_
                refine i_getf rfl rfl rfl rfl (by decide) ?_
                refine i_if_ne_t rfl (by first | omega | assumption) ?_
                refine i_iconst (n := 1) rfl (by unfold iR; omega) ?_
                refine i_goto rfl ?_
                -- at 82
                exact hend M3 _ _ y0 y1 e38 (f13 61 (by decide))
              · show va_up (M3 40) 39 1 k = _
                rw [up_n (by omega)]
                exact q13 k (by omega) (by omega)
            by_cases h5' : a + 5 ≤ 8 * m
            · obtain ⟨M2, n4, f2, r2, q2⟩ := d_numG (b := b) (n := 4) r1 hm (by decide) (by omega)
              obtain ⟨y, M3, a', n3, f3, y0, r3, a3, e39, q3⟩ := d_numB (b := b) (n := 3) r2 hm (by omega) (by decide) (by omega)
              have v4 := nv_b B (a + 1) 4
              exact hfin M2 M3 _ y a' v4.1 v4.2 y0.1 y0.2 n4 n3 (Fr_t (Fr_t f1 f2 (by decide)) f3 (by decide)) e39 (fun k k1 k2 => (q3 k k1 k2).trans ((q2 k k1).trans (q1 k k1)))
            · obtain ⟨x, M2, a2, n4, f2, x0, r2, a2b, e39, q2⟩ := d_numB (b := b) (n := 4) r1 hm (by omega) (by decide) (by omega)
              obtain ⟨y, M3, a', n3, f3, y0, r3, a3, e39, q3⟩ := d_numB (b := b) (n := 3) r2 hm a2b (by decide) (Or.inr e39)
              exact hfin M2 M3 x y a' x0.1 x0.2 y0.1 y0.2 n4 n3 (Fr_t (Fr_t f1 f2 (by decide)) f3 (by decide)) e39 (fun k k1 k2 => (q3 k k1 k2).trans ((q2 k k1 k2).trans (q1 k k1)))
        · have hb0 : bt B a = 0 := by omega
          rw [hb0] at hb
          by_cases h9 : a + 9 ≤ 8 * m
          · have hms : mst B m all d a R = some (d + 1, a + 9, va_up R d (nv B (a + 1) 8)) := by
              unfold mst
              rw [if_neg (fun q => hbit q.2), if_pos h9]
            rw [mrn_s hd hms]
            have v8 := nv_b B (a + 1) 8
            obtain ⟨M2, n8, f2, r2, q2⟩ := d_numG (b := b) (n := 8) r1 hm (by decide) (by omega)
            have e38 : M2 40 38 = (d : Int) := (q2 38 (by decide)).trans ((q1 38 (by decide)).trans h5)
            obtain ⟨M3, k1, k2, k3, k4, k5⟩ := d_give (b := b) (v := nv B (a + 1) 8) e38 (by omega)
            have q13 : ∀ k, k ≠ 36 → k ≠ 38 → M3 40 k = M 40 k := fun k hk hk2 => (k5 k hk2).trans ((q2 k hk).trans (q1 k hk))
            have f13 : Fr [40, 61] M M3 := Fr_t (Fr_t (Fr_t (Fr_r _ _) f1 (by decide)) f2 (by decide)) k2 (by decide)
            obtain ⟨M4, g1, g2, g3, g4⟩ := ih (d + 1) (a + 9) (va_up R d (nv B (a + 1) 8)) l2 l3 l4 M3 z3 z4 (by omega) (by omega) (by omega) (RB_c (show RB M2 B m (a + 9) from r2) (k5 36 (by decide)) (k5 37 (by decide)) (k2 60 (by decide))) k4 ((q13 39 (by decide) (by decide)).trans h6) (fun j hj => by
              rw [k3]
              by_cases e : j = d
              · rw [e, up_s, up_s]
                exact ⟨rfl, v8.1, v8.2⟩
              · rw [up_n e, up_n e, f2 61 (by decide), f1 61 (by decide)]
                exact h7 j (by omega))
            refine ⟨M4, ?_, Fr_t f13 g2 (by decide), G40_t (fun k hk => q13 k (by omega) (by omega)) g3, g4⟩
            refine i_aload_n rfl rfl ?_
            refine i_getf rfl rfl rfl rfl (by decide) ?_
            refine i_iload_n rfl rfl ?_
            refine i_icmp_ge_f rfl (by first | omega | assumption) ?_
            refine i_aload_n rfl rfl ?_
            refine i_getf rfl rfl rfl rfl (by decide) ?_
            refine i_if_ne_f rfl (by first | omega | assumption) ?_
            refine i_aload_n rfl rfl ?_
            -- at 16
            refine i_call (T := (131, zp_131)) rfl rfl (hb) rfl rfl rfl rfl rfl rfl rfl ?_
            try dsimp only
            show irun none zp_134 19 _ (iI (0) :: _) _ _ 0 0 _
            refine i_if_ne_f rfl (by first | omega | assumption) ?_
            refine i_aload_n rfl rfl ?_
            refine i_aload_n rfl rfl ?_
            refine i_bipush (n := 8) rfl (by unfold iR; omega) (by decide) ?_
            -- at 26
            refine i_call (T := (132, zp_132)) rfl rfl (n8) rfl rfl rfl rfl rfl rfl rfl ?_
            try dsimp only
            show irun none zp_134 29 _ (iI (nv B (a + 1) 8) :: _) _ _ 0 0 _
            refine i_call (T := (133, zp_133)) rfl rfl (k1) rfl rfl rfl rfl rfl rfl rfl ?_
            try dsimp only
            refine i_goto rfl ?_
            -- at 0
            exact g1
          · have hms : mst B m all d a R = none := by
              unfold mst
              rw [if_neg (fun q => hbit q.2), if_neg h9]
            obtain ⟨r, M2, a2, n8, f2, r0, r2, a2b, e39, q2⟩ := d_numB (b := b) (n := 8) r1 hm (by omega) (by decide) (by omega)
            refine hbd r M2 (Fr_t f1 f2 (by decide)) r0.1 r0.2 ((q2 38 (by decide) (by decide)).trans ((q1 38 (by decide)).trans h5)) e39 (fun k hk => (q2 k (by omega) (by omega)).trans (q1 k (by omega))) hms (fun q hq => ?_)
            refine i_aload_n rfl rfl ?_
            refine i_getf rfl rfl rfl rfl (by decide) ?_
            refine i_iload_n rfl rfl ?_
            refine i_icmp_ge_f rfl (by first | omega | assumption) ?_
            refine i_aload_n rfl rfl ?_
            refine i_getf rfl rfl rfl rfl (by decide) ?_
            refine i_if_ne_f rfl (by first | omega | assumption) ?_
            refine i_aload_n rfl rfl ?_
            -- at 16
            refine i_call (T := (131, zp_131)) rfl rfl (hb) rfl rfl rfl rfl rfl rfl rfl ?_
            try dsimp only
            show irun none zp_134 19 _ (iI (0) :: _) _ _ 0 0 _
            refine i_if_ne_f rfl (by first | omega | assumption) ?_
            refine i_aload_n rfl rfl ?_
            refine i_aload_n rfl rfl ?_
            refine i_bipush (n := 8) rfl (by unfold iR; omega) (by decide) ?_
            -- at 26
            refine i_call (T := (132, zp_132)) rfl rfl (n8) rfl rfl rfl rfl rfl rfl rfl ?_
            try dsimp only
            show irun none zp_134 29 _ (iI (r) :: _) _ _ 0 0 _
            exact hq
      · have hb := d_bitF (b := b) h4 hm h3 (by omega)
        have hms : mst B m all d a R = none := by
          unfold mst
          rw [if_neg (fun q => ha q.1), if_neg (by omega)]
        obtain ⟨M1, hM1⟩ : ∃ M1, M1 = va_up M 40 (va_up (M 40) 39 1) := ⟨_, rfl⟩
        rw [← hM1] at hb
        have f1 : Fr [40] M M1 := by rw [hM1]; exact Fr_up (Fr_r _ _) (by decide)
        have r1 : RB M1 B m a := by rw [hM1]; exact ⟨h4.1, h4.2.1, h4.2.2⟩
        have q1 : ∀ k, k ≠ 39 → M1 40 k = M 40 k := fun k hk => by rw [hM1]; exact up_n hk
        obtain ⟨r, M2, a2, n8, f2, r0, r2, a2b, e39, q2⟩ := d_numB (b := b) (n := 8) r1 hm h3 (by decide) (by omega)
        refine hbd r M2 (Fr_t f1 f2 (by decide)) r0.1 r0.2 ((q2 38 (by decide) (by decide)).trans ((q1 38 (by decide)).trans h5)) e39 (fun k hk => (q2 k (by omega) (by omega)).trans (q1 k (by omega))) hms (fun q hq => ?_)
        refine i_aload_n rfl rfl ?_
        refine i_getf rfl rfl rfl rfl (by decide) ?_
        refine i_iload_n rfl rfl ?_
        refine i_icmp_ge_f rfl (by first | omega | assumption) ?_
        refine i_aload_n rfl rfl ?_
        refine i_getf rfl rfl rfl rfl (by decide) ?_
        refine i_if_ne_f rfl (by first | omega | assumption) ?_
        refine i_aload_n rfl rfl ?_
        -- at 16
        refine i_call (T := (131, zp_131)) rfl rfl (hb) rfl rfl rfl rfl rfl rfl rfl ?_
        try dsimp only
        show irun none zp_134 19 _ (iI (0) :: _) _ _ 0 0 _
        refine i_if_ne_f rfl (by first | omega | assumption) ?_
        refine i_aload_n rfl rfl ?_
        refine i_aload_n rfl rfl ?_
        refine i_bipush (n := 8) rfl (by unfold iR; omega) (by decide) ?_
        -- at 26
        refine i_call (T := (132, zp_132)) rfl rfl (n8) rfl rfl rfl rfl rfl rfl rfl ?_
        try dsimp only
        show irun none zp_134 29 _ (iI (r) :: _) _ _ 0 0 _
        exact hq
    · exact done (c + 1) d a R l2 l3 l4 M hd h2 h5 h6 h7
