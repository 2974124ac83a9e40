theorem srm_c {D E : Nat → Nat → Int} {g : Nat} {f Q : Nat → Int} {n : Nat} (h : ∀ i k, i < n → k < 11 → D i k = E i k) : ∀ i, i ≤ n → srm D g f Q i = srm E g f Q i := by
  intro i
  induction i with
  | zero => intro _; rfl
  | succ i ih =>
    intro hi
    unfold srm
    rw [ih (by omega), st2m_c (fun k hk => h i k (by omega) hk)]
def wrm (D1 D2 D3 : Nat → Nat → Int) (f1 f2 f3 n1 n2 : Nat) (f Q : Nat → Int) : Int × (Nat → Int) × (Nat → Int) :=
  if (srm D1 f1 f Q n1).1 = 1 then
    if (srm D2 f2 (srm D1 f1 f Q n1).2.1 (srm D1 f1 f Q n1).2.2 n2).1 = 1 then srm D3 f3 (srm D2 f2 (srm D1 f1 f Q n1).2.1 (srm D1 f1 f Q n1).2.2 n2).2.1 (srm D2 f2 (srm D1 f1 f Q n1).2.1 (srm D1 f1 f Q n1).2.2 n2).2.2 1
    else srm D2 f2 (srm D1 f1 f Q n1).2.1 (srm D1 f1 f Q n1).2.2 n2
  else srm D1 f1 f Q n1
theorem wr_rel {D1 D2 D3 E1 E2 E3 : Nat → Nat → Int} {f1 f2 f3 n1 n2 : Nat} {f O Q : Nat → Int} (h : Rl O Q) (h1 : ∀ i k, i < n1 → k < 11 → D1 i k = E1 i k) (h2 : ∀ i k, i < n2 → k < 11 → D2 i k = E2 i k) (h3 : ∀ i k, i < 1 → k < 11 → D3 i k = E3 i k) : (wr D1 D2 D3 f1 f2 f3 n1 n2 f O).1 = (wrm E1 E2 E3 f1 f2 f3 n1 n2 f Q).1 ∧ (wr D1 D2 D3 f1 f2 f3 n1 n2 f O).2.1 = (wrm E1 E2 E3 f1 f2 f3 n1 n2 f Q).2.1 ∧ Rl (wr D1 D2 D3 f1 f2 f3 n1 n2 f O).2.2 (wrm E1 E2 E3 f1 f2 f3 n1 n2 f Q).2.2 := by
  obtain ⟨a1, a2, a3⟩ := sr_rel (first := f1) (f := f) h h1 n1 (Nat.le_refl _)
  unfold wr wrm
  rw [← a1, ← a2]
  by_cases c1 : (sr D1 f1 f O n1).1 = 1
  · rw [if_pos c1, if_pos c1]
    obtain ⟨b1, b2, b3⟩ := sr_rel (first := f2) (f := (sr D1 f1 f O n1).2.1) a3 h2 n2 (Nat.le_refl _)
    rw [← b1, ← b2]
    by_cases c2 : (sr D2 f2 (sr D1 f1 f O n1).2.1 (sr D1 f1 f O n1).2.2 n2).1 = 1
    · rw [if_pos c2, if_pos c2]
      exact sr_rel b3 h3 1 (Nat.le_refl _)
    · rw [if_neg c2, if_neg c2]
      exact ⟨b1, b2, b3⟩
  · rw [if_neg c1, if_neg c1]
    exact ⟨a1, a2, a3⟩
set_option maxRecDepth 100000 in
theorem d_put {b : Bool} {M : iM} {c f1 n1 f2 n2 x y : Nat} {t : Int} {W : Nat → Int} (hc : M 43 0 = (c : Int)) (h10 : c ≤ 10) (hw : ∀ j, j < 7 * c → M 43 (1 + j) = W j) (hW : ∀ k, k < c → 0 ≤ W (7 * k) ∧ W (7 * k) ≤ 7) (hWb : ∀ j, j < 1 + 7 * c → 0 ≤ M 43 j ∧ M 43 j < 256) (hx : M 40 8 = (x : Int)) (hx2 : x < 256) (hy : y = (x + 1) % 256) (hf : by8 (M 41) 720) (hq : Qq (M 40)) (hd : 0 < n1 → by8 (M 50) 128) (h1 : f1 + n1 ≤ 48) (h1' : n1 ≤ 11) (h2 : f2 + n2 ≤ 48) (h2' : n2 ≤ 11)
    {V : Int × (Nat → Int) × (Nat → Int)} (hV : V = wrm (fun i k => M 50 (11 * i + k)) (fun i k => F2 M c n2 (11 * i + k)) (fun i k => F3 y f2 n2 (11 * i + k)) f1 f2 (y % 2) n1 n2 (M 41) (M 40)) :
    ∃ M', irun none zp_153 0 (i_ent [iP 40, iI (f1 : Int), iI (n1 : Int), iI (f2 : Int), iI (n2 : Int), iI t] 9) [] (SH b) M 0 0 (some (if V.1 = 1 then 1 else 0), SH b, M') ∧ Fr [40, 41, 42, 44, 49, 50, 51] M M' ∧ M' 41 = V.2.1 ∧
      (V.1 = 1 → (∀ k, k ≠ 6 → k ≠ 7 → k ≠ 8 → k ≠ 9 → k ≠ 13 → k ≠ 14 → k ≠ 15 → M' 40 k = V.2.2 k) ∧ M' 40 6 = (f2 : Int) ∧ M' 40 7 = (n2 : Int) ∧ M' 40 8 = (y : Int) ∧ M' 40 9 = t ∧ M' 40 13 = 0 ∧ M' 40 14 = 0 ∧ M' 40 15 = 0 ∧ (∀ j, j < 80 → M' 42 j = M 43 j) ∧ (∀ k, k < 8 → M' 44 k = bsf (M 44) W c k) ∧ M' 49 = zz (M 49)) ∧
      (V.1 ≠ 1 → M' 40 = V.2.2 ∧ M' 42 = M 42 ∧ M' 44 = M 44 ∧ M' 49 = M 49) := by
  obtain ⟨M1, a1, a2, a3, a4, a5⟩ := d_st1 (b := b) (M := M) (g := f1) (m := n1) (x3 := (f2 : Int)) (x4 := (n2 : Int)) (x5 := t) hf hq hd h1 h1' rfl
  have ok1 := srm_ok (D := fun i k => M 50 (11 * i + k)) (first := f1) hq hf (n := n1) (fun i hi k hk => hd (by omega) _ (by omega)) n1 (Nat.le_refl _) h1
  unfold wrm at hV
  have start : ∀ q, irun none zp_153 3 [some (iP 40), some (iI (f1 : Int)), some (iI (n1 : Int)), some (iI (f2 : Int)), some (iI (n2 : Int)), some (iI t), some (iI 0), none, none] [] (SH b) M 0 0 q → irun none zp_153 0 (i_ent [iP 40, iI (f1 : Int), iI (n1 : Int), iI (f2 : Int), iI (n2 : Int), iI t] 9) [] (SH b) M 0 0 q := by
    intro q hq
    refine i_iconst (n := 0) rfl (by unfold iR; omega) ?_
    refine i_istore rfl (Nat.le_of_ble_eq_true rfl) rfl ?_
    -- at 3
    exact hq
  by_cases c1 : (srm (fun i k => M 50 (11 * i + k)) f1 (M 41) (M 40) n1).1 = 1
  · rw [if_pos c1, ← a4, ← a5] at hV
    have a1 := a1 c1
    have e43 : M1 43 = M 43 := a3 43 (by decide)
    have fi2 := d_fill2 (b := b) (M := M1) (c := c) (x1 := (f1 : Int)) (x2 := (n1 : Int)) (x3 := (f2 : Int)) (m := (n2 : Int)) (x5 := t) (by rw [e43]; exact hc) h10
    have eF : F2 M1 c (n2 : Int) = F2 M c (n2 : Int) := by
      funext j
      unfold F2
      rw [e43]
    rw [eF] at fi2
    generalize eM2 : va_up M1 50 (fun j => if j < 128 then F2 M c (n2 : Int) j else M1 50 j) = M2 at fi2
    have fM2 : Fr [50] M1 M2 := by rw [← eM2]; exact Fr_up (Fr_r _ _) (by decide)
    have m50 : ∀ j, j < 128 → M2 50 j = F2 M c (n2 : Int) j := by
      intro j hj
      rw [← eM2, up_s, if_pos hj]
    have hd2 : by8 (M2 50) 128 := by
      intro j hj
      rw [m50 j hj]
      unfold F2
      by_cases z : j < 1 + 7 * c ∧ 0 < (n2 : Int)
      · rw [if_pos z]; exact hWb j z.1
      · rw [if_neg z]; omega
    have hf2 : by8 (M2 41) 720 := by rw [fM2 41 (by decide), a4]; exact ok1.1
    have hq2 : Qq (M2 40) := by rw [fM2 40 (by decide), a5]; exact ok1.2.1
    obtain ⟨M3, b1, b2, b3, b4, b5⟩ := d_st2 (b := b) (M := M2) (g := f2) (m := n2) (x1 := (f1 : Int)) (x2 := (n1 : Int)) (x5 := t) hf2 hq2 (fun _ => hd2) h2 h2' rfl
    have ok2 := srm_ok (D := fun i k => M2 50 (11 * i + k)) (first := f2) hq2 hf2 (n := n2) (fun i hi k hk => hd2 _ (by omega)) n2 (Nat.le_refl _) h2
    have ec : srm (fun i k => F2 M c (n2 : Int) (11 * i + k)) f2 (M1 41) (M1 40) n2 = srm (fun i k => M2 50 (11 * i + k)) f2 (M2 41) (M2 40) n2 := by
      rw [fM2 41 (by decide), fM2 40 (by decide)]
      exact srm_c (n := n2) (fun i k hi hk => (m50 _ (by omega)).symm) n2 (Nat.le_refl _)
    rw [ec] at hV
    have to2 : ∀ q, irun none zp_153 92 [some (iP 40), some (iI (f1 : Int)), some (iI (n1 : Int)), some (iI (f2 : Int)), some (iI (n2 : Int)), some (iI t), some (iI 0), none, none] [] (SH b) M2 0 0 q → irun none zp_153 0 (i_ent [iP 40, iI (f1 : Int), iI (n1 : Int), iI (f2 : Int), iI (n2 : Int), iI t] 9) [] (SH b) M 0 0 q := by
      intro q hq
      refine start q (a1 q ?_)
      refine i_iconst (n := 0) rfl (by unfold iR; omega) ?_
      refine i_istore rfl (Nat.le_of_ble_eq_true rfl) rfl ?_
      -- at 36
      refine fi2 q ?_
      refine i_iconst (n := 0) rfl (by unfold iR; omega) ?_
      refine i_istore rfl (Nat.le_of_ble_eq_true rfl) rfl ?_
      -- at 92
      exact hq
    have fr3 : Fr [40, 41, 50, 51] M M3 := Fr_t (Fr_t (Fr_t (Fr_r _ _) a3 (by decide)) fM2 (by decide)) b3 (by decide)
    by_cases c2 : (srm (fun i k => M2 50 (11 * i + k)) f2 (M2 41) (M2 40) n2).1 = 1
    · rw [if_pos c2, ← b4, ← b5] at hV
      have b1 := b1 c2
      have x8 : M3 40 8 = (x : Int) := by
        rw [b5, ok2.2.2.2 8 (by decide) (by decide) (by decide), fM2 40 (by decide), a5, ok1.2.2.2 8 (by decide) (by decide) (by decide)]
        exact hx
      have fi3 := d_fill3 (b := b) (M := M3) (x1 := (f1 : Int)) (x2 := (n1 : Int)) (x3 := (f2 : Int)) (m := (n2 : Int)) (x5 := t) (x6 := (y : Int))
      generalize eM4 : va_up M3 50 (fun j => if j < 11 then F3 (y : Int) (f2 : Int) (n2 : Int) j else M3 50 j) = M4 at fi3
      have fM4 : Fr [50] M3 M4 := by rw [← eM4]; exact Fr_up (Fr_r _ _) (by decide)
      have n50 : ∀ j, j < 11 → M4 50 j = F3 (y : Int) (f2 : Int) (n2 : Int) j := by
        intro j hj
        rw [← eM4, up_s, if_pos hj]
      have hd4 : by8 (M4 50) 128 := by
        intro j hj
        by_cases z : j < 11
        · rw [n50 j z]
          unfold F3
          split
          · omega
          · split
            · omega
            · split
              · omega
              · split
                · omega
                · split <;> omega
        · rw [← eM4, up_s, if_neg z, b3 50 (by decide)]
          exact hd2 j hj
      have hf4 : by8 (M4 41) 720 := by rw [fM4 41 (by decide), b4]; exact ok2.1
      have hq4 : Qq (M4 40) := by rw [fM4 40 (by decide), b5]; exact ok2.2.1
      obtain ⟨T, st⟩ := d_store (b := b) (M := M4) (s := y % 2) (fr := 0) (by omega) (by omega) hq4 hf4 hd4
      have ev : V = st2m (M4 41) (M4 40) (y % 2) (fun k => M4 50 (0 + k)) := by
        rw [hV, fM4 41 (by decide), fM4 40 (by decide)]
        show (if (1 : Int) = 1 then st2m (M3 41) (M3 40) (y % 2 + 0) (fun k => F3 (y : Int) (f2 : Int) (n2 : Int) (11 * 0 + k)) else _) = _
        rw [if_pos rfl]
        exact st2m_c (fun k hk => by
          show F3 (y : Int) (f2 : Int) (n2 : Int) (11 * 0 + k) = M4 50 (0 + k)
          rw [n50 (0 + k) (by omega), show 11 * 0 + k = 0 + k by omega])
      rw [← ev] at st
      have v01 : V.1 = 0 ∨ V.1 = 1 := by rw [ev]; exact st2m_01 _ _ _ _
      have to4 : ∀ q, irun none zp_153 221 [some (iP 40), some (iI (f1 : Int)), some (iI (n1 : Int)), some (iI (f2 : Int)), some (iI (n2 : Int)), some (iI t), some (iI (y : Int)), some (iI 11), none] [iI V.1] (SH b) (va_up (va_up (va_up M4 40 V.2.2) 51 T) 41 V.2.1) 0 0 q → irun none zp_153 0 (i_ent [iP 40, iI (f1 : Int), iI (n1 : Int), iI (f2 : Int), iI (n2 : Int), iI t] 9) [] (SH b) M 0 0 q := by
        intro q hq
        refine to2 q (b1 q ?_)
        refine i_aload_n rfl rfl ?_
        refine i_getf rfl rfl rfl rfl (by decide) ?_
        -- at 127
        rw [x8]
        refine i_iconst (n := 1) rfl (by unfold iR; omega) ?_
        refine i_iadd rfl (by unfold iR; omega) ?_
        refine i_sipush (n := 255) rfl (by unfold iR; omega) (by decide) ?_
        refine i_iand 8 rfl (by decide) (by decide) ?_
        -- at 133
        rw [show ((x : Int) + 1) % (255 + 1) = (y : Int) by omega]
        refine i_istore rfl (Nat.le_of_ble_eq_true rfl) rfl ?_
        refine i_iconst (n := 0) rfl (by unfold iR; omega) ?_
        refine i_istore rfl (Nat.le_of_ble_eq_true rfl) rfl ?_
        -- at 138
        refine fi3 q ?_
        refine i_aload_n rfl rfl ?_
        refine i_iload rfl rfl ?_
        refine i_iconst (n := 2) rfl (by unfold iR; omega) ?_
        refine i_irem rfl (by first | omega | assumption) (by first | omega | assumption) ?_
        -- at 217
        rw [show (y : Int) % 2 = ((y % 2 : Nat) : Int) by omega]
        refine i_iconst (n := 0) rfl (by unfold iR; omega) ?_
        -- at 218
        refine i_call (T := (117, zp_117)) rfl rfl (st) rfl rfl rfl rfl rfl rfl rfl ?_
        try dsimp only
        exact hq
      have fr4 : Fr [40, 41, 50, 51] M (va_up (va_up (va_up M4 40 V.2.2) 51 T) 41 V.2.1) := Fr_up (Fr_up (Fr_up (Fr_t fr3 fM4 (by decide)) (by decide)) (by decide)) (by decide)
      generalize eM5 : va_up (va_up (va_up M4 40 V.2.2) 51 T) 41 V.2.1 = M5 at to4 fr4
      have m5 : M5 40 = V.2.2 ∧ M5 41 = V.2.1 := by rw [← eM5]; exact ⟨rfl, rfl⟩
      by_cases c3 : V.1 = 1
      · rw [c3] at to4
        obtain ⟨M', g1, g2, g3, g4, g5, g6, g7, g8, g9, g10, g11, g12, g13⟩ := d_end (b := b) (M := M5) (c := c) (x1 := (f1 : Int)) (x2 := (n1 : Int)) (x3 := (f2 : Int)) (m := (n2 : Int)) (x5 := t) (x6 := (y : Int)) (W := W) (z := none) (by rw [fr4 43 (by decide)]; exact hc) h10 (by rw [fr4 43 (by decide)]; exact hw) hW
        refine ⟨M', to4 _ ?_, Fr_t (Fr_t (Fr_r _ _) fr4 (by decide)) g2 (by decide), by rw [g2 41 (by decide)]; exact m5.2, fun _ => ⟨fun k k1 k2 k3 k4 k5 k6 k7 => by rw [g3 k k1 k2 k3 k4 k5 k6 k7, m5.1], g4, g5, g6, g7, g8, g9, g10, fun j hj => by rw [g11 j hj, fr4 43 (by decide)], fun k hk => by rw [g12 k hk, fr4 44 (by decide)], by rw [g13, fr4 49 (by decide)]⟩, fun z => absurd c3 z⟩
        rw [if_pos c3]
        refine i_if_ne_t rfl (by first | omega | assumption) ?_
        -- at 226
        exact g1
      · have z0 : V.1 = 0 := by rcases v01 with z | z; exact z; exact absurd z c3
        rw [z0] at to4
        refine ⟨M5, to4 _ ?_, Fr_t (Fr_r _ _) fr4 (by decide), m5.2, fun z => absurd z c3, fun _ => ⟨m5.1, fr4 42 (by decide), fr4 44 (by decide), fr4 49 (by decide)⟩⟩
        rw [if_neg c3]
        refine i_if_ne_f rfl (by first | omega | assumption) ?_
        refine i_iconst (n := 0) rfl (by unfold iR; omega) ?_
        -- at 225
        exact i_zreturn rfl rfl (by first | omega | assumption)
    · rw [if_neg c2] at hV
      have v1 : V.1 ≠ 1 := by rw [hV]; exact c2
      refine ⟨M3, to2 _ ?_, Fr_t (Fr_r _ _) fr3 (by decide), by rw [b4, hV], fun z => absurd z v1, fun _ => ⟨by rw [b5, hV], fr3 42 (by decide), fr3 44 (by decide), fr3 49 (by decide)⟩⟩
      rw [if_neg v1]
      exact b2 c2
  · rw [if_neg c1] at hV
    have v1 : V.1 ≠ 1 := by rw [hV]; exact c1
    refine ⟨M1, start _ ?_, Fr_t (Fr_r _ _) a3 (by decide), by rw [a4, hV], fun z => absurd z v1, fun _ => ⟨by rw [a5, hV], a3 42 (by decide), a3 44 (by decide), a3 49 (by decide)⟩⟩
    rw [if_neg v1]
    exact a2 c1
