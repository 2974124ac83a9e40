theorem st2m_q {f Q d : Nat → Int} {s : Nat} (h : Qq Q) : Qq (st2m f Q s d).2.2 := by
  have h1 := Q1_q h
  have h2 := Q1_q h1
  unfold st2m
  split
  · exact h1
  · split
    · exact h2
    · exact h2
theorem st2m_b {f Q d : Nat → Int} {s : Nat} (hs : s < 48) (hf : by8 f 720) (hd : by8 d 11) : by8 (st2m f Q s d).2.1 720 := by
  have w1 := wS_b (s := s) hf hd
  unfold st2m
  split
  · exact hf
  · split
    · exact w1
    · exact wS_b w1 (jn8 w1 (by omega))
theorem st2m_01 (f Q d : Nat → Int) (s : Nat) : (st2m f Q s d).1 = 0 ∨ (st2m f Q s d).1 = 1 := by
  unfold st2m
  split
  · exact Or.inl rfl
  · split
    · exact Or.inl rfl
    · exact Or.inr rfl
theorem st2m_k {f Q d : Nat → Int} {s k : Nat} (h1 : k ≠ 1) (h2 : k ≠ 2) (h3 : k ≠ 3) : (st2m f Q s d).2.2 k = Q k := by
  have q : ∀ P : Nat → Int, Q1 P k = P k := by
    intro P
    unfold Q1
    split
    · first | rfl | rw [if_neg h1, if_neg h2]
    · first | rfl | rw [if_neg h3]
  unfold st2m
  split
  · exact q Q
  · split
    · exact (q _).trans (q Q)
    · exact (q _).trans (q Q)
theorem srm_ok {D : Nat → Nat → Int} {first : Nat} {f Q : Nat → Int} (hq : Qq Q) (hf : by8 f 720) {n : Nat} (hD : ∀ i, i < n → by8 (D i) 11) : ∀ i, i ≤ n → first + i ≤ 48 → by8 (srm D first f Q i).2.1 720 ∧ Qq (srm D first f Q i).2.2 ∧ ((srm D first f Q i).1 = 0 ∨ (srm D first f Q i).1 = 1) ∧ ∀ k, k ≠ 1 → k ≠ 2 → k ≠ 3 → (srm D first f Q i).2.2 k = Q k := by
  intro i
  induction i with
  | zero => intro _ _; exact ⟨hf, hq, Or.inr rfl, fun _ _ _ _ => rfl⟩
  | succ i ih =>
    intro hi h48
    obtain ⟨h1, h2, h3, h4⟩ := ih (by omega) (by omega)
    unfold srm
    by_cases c : (srm D first f Q i).1 = 1
    · rw [if_pos c]
      exact ⟨st2m_b (by omega) h1 (hD i (by omega)), st2m_q h2, st2m_01 _ _ _ _, fun k k1 k2 k3 => (st2m_k k1 k2 k3).trans (h4 k k1 k2 k3)⟩
    · rw [if_neg c]
      exact ⟨h1, h2, h3, h4⟩
theorem srm_stop {D : Nat → Nat → Int} {first : Nat} {f Q : Nat → Int} {i n : Nat} (h : (srm D first f Q i).1 ≠ 1) (hi : i ≤ n) : srm D first f Q n = srm D first f Q i := by
  induction hi with
  | refl => rfl
  | step hi ih =>
    show (if (srm D first f Q _).1 = 1 then _ else srm D first f Q _) = _
    rw [ih, if_neg h]
set_option maxRecDepth 100000 in
theorem d_st1 {b : Bool} {M : iM} {g m : Nat} {x3 x4 x5 : Int} (hf : by8 (M 41) 720) (hq : Qq (M 40)) (hd : 0 < m → by8 (M 50) 128) (h48 : g + m ≤ 48) (h11 : m ≤ 11) {V : Int × (Nat → Int) × (Nat → Int)} (hV : V = srm (fun i k => M 50 (11 * i + k)) g (M 41) (M 40) m) : ∃ M', (V.1 = 1 → ∀ q, irun none zp_153 33 [some (iP 40), some (iI (g : Int)), some (iI (m : Int)), some (iI x3), some (iI x4), some (iI x5), some (iI (m : Int)), none, none] [] (SH b) M' 0 0 q → irun none zp_153 3 [some (iP 40), some (iI (g : Int)), some (iI (m : Int)), some (iI x3), some (iI x4), some (iI x5), some (iI 0), none, none] [] (SH b) M 0 0 q) ∧ (V.1 ≠ 1 → irun none zp_153 3 [some (iP 40), some (iI (g : Int)), some (iI (m : Int)), some (iI x3), some (iI x4), some (iI x5), some (iI 0), none, none] [] (SH b) M 0 0 (some 0, SH b, M')) ∧ Fr [40, 41, 51] M M' ∧ M' 41 = V.2.1 ∧ M' 40 = V.2.2 := by
  have hD : ∀ i, i < m → by8 (fun k => M 50 (11 * i + k)) 11 := fun i hi k hk => hd (by omega) _ (by omega)
  have ok := srm_ok (D := fun i k => M 50 (11 * i + k)) (first := g) hq hf hD
  have loop : ∀ (d i : Nat) (M1 : iM), i + d = m → (srm (fun i k => M 50 (11 * i + k)) g (M 41) (M 40) i).1 = 1 → Fr [40, 41, 51] M M1 → M1 41 = (srm (fun i k => M 50 (11 * i + k)) g (M 41) (M 40) i).2.1 → M1 40 = (srm (fun i k => M 50 (11 * i + k)) g (M 41) (M 40) i).2.2 → ∃ M', (V.1 = 1 → ∀ q, irun none zp_153 33 [some (iP 40), some (iI (g : Int)), some (iI (m : Int)), some (iI x3), some (iI x4), some (iI x5), some (iI (m : Int)), none, none] [] (SH b) M' 0 0 q → irun none zp_153 3 [some (iP 40), some (iI (g : Int)), some (iI (m : Int)), some (iI x3), some (iI x4), some (iI x5), some (iI (i : Int)), none, none] [] (SH b) M1 0 0 q) ∧ (V.1 ≠ 1 → irun none zp_153 3 [some (iP 40), some (iI (g : Int)), some (iI (m : Int)), some (iI x3), some (iI x4), some (iI x5), some (iI (i : Int)), none, none] [] (SH b) M1 0 0 (some 0, SH b, M')) ∧ Fr [40, 41, 51] M M' ∧ M' 41 = V.2.1 ∧ M' 40 = V.2.2 := by
    intro d
    induction d with
    | zero =>
      intro i M1 hi h1 fr e1 e2
      obtain rfl : i = m := by omega
      rw [← hV] at h1 e1 e2
      refine ⟨M1, fun _ q hq => ?_, fun z => absurd h1 z, fr, e1, e2⟩
      refine i_iload rfl rfl ?_
      refine i_iload_n rfl rfl ?_
      refine i_icmp_ge_t rfl (by first | omega | assumption) ?_
      -- at 33
      exact hq
    | succ d ih =>
      intro i M1 hi h1 fr e1 e2
      obtain ⟨o1, o2, _⟩ := ok i (by omega) (by omega)
      obtain ⟨T, st⟩ := d_store (b := b) (M := M1) (s := g + i) (fr := 11 * i) (by omega) (by omega) (by rw [e2]; exact o2) (by rw [e1]; exact o1) (by rw [fr 50 (by decide)]; exact hd (by omega))
      rw [fr 50 (by decide), e1, e2] at st
      have es : srm (fun i k => M 50 (11 * i + k)) g (M 41) (M 40) (i + 1) = st2m (srm (fun i k => M 50 (11 * i + k)) g (M 41) (M 40) i).2.1 (srm (fun i k => M 50 (11 * i + k)) g (M 41) (M 40) i).2.2 (g + i) (fun k => M 50 (11 * i + k)) := by
        show (if _ then _ else _) = _
        rw [if_pos h1]
      rw [← es] at st
      have o3 := (ok (i + 1) (by omega) (by omega)).2.2.1
      have pre : ∀ q, irun none zp_153 22 [some (iP 40), some (iI (g : Int)), some (iI (m : Int)), some (iI x3), some (iI x4), some (iI x5), some (iI (i : Int)), none, none] [iI (srm (fun i k => M 50 (11 * i + k)) g (M 41) (M 40) (i + 1)).1] (SH b) (va_up (va_up (va_up M1 40 (srm (fun i k => M 50 (11 * i + k)) g (M 41) (M 40) (i + 1)).2.2) 51 T) 41 (srm (fun i k => M 50 (11 * i + k)) g (M 41) (M 40) (i + 1)).2.1) 0 0 q → irun none zp_153 3 [some (iP 40), some (iI (g : Int)), some (iI (m : Int)), some (iI x3), some (iI x4), some (iI x5), some (iI (i : Int)), none, none] [] (SH b) M1 0 0 q := by
        intro q hq
        refine i_iload rfl rfl ?_
        refine i_iload_n rfl rfl ?_
        refine i_icmp_ge_f rfl (by first | omega | assumption) ?_
        refine i_aload_n rfl rfl ?_
        refine i_iload_n rfl rfl ?_
        refine i_iload rfl rfl ?_
        refine i_iadd rfl (by unfold iR; omega) ?_
        -- at 14
        rw [show (g : Int) + (i : Int) = ((g + i : Nat) : Int) by omega]
        refine i_bipush (n := 11) rfl (by unfold iR; omega) (by decide) ?_
        refine i_iload rfl rfl ?_
        refine i_imul rfl (by unfold iR; omega) ?_
        -- at 19
        rw [show (11 : Int) * (i : Int) = ((11 * i : Nat) : Int) by omega]
        refine i_call (T := (117, zp_117)) rfl rfl (st) rfl rfl rfl rfl rfl rfl rfl ?_
        try dsimp only
        exact hq
      have frn : Fr [40, 41, 51] M (va_up (va_up (va_up M1 40 (srm (fun i k => M 50 (11 * i + k)) g (M 41) (M 40) (i + 1)).2.2) 51 T) 41 (srm (fun i k => M 50 (11 * i + k)) g (M 41) (M 40) (i + 1)).2.1) := Fr_up (Fr_up (Fr_up fr (by decide)) (by decide)) (by decide)
      by_cases c : (srm (fun i k => M 50 (11 * i + k)) g (M 41) (M 40) (i + 1)).1 = 1
      · obtain ⟨M', k1, k2, k3⟩ := ih (i + 1) _ (by omega) c frn rfl rfl
        rw [c] at pre
        refine ⟨M', fun hv q hq => pre q ?_, fun hv => pre _ ?_, k3⟩
        · have k1 := k1 hv q hq
          refine i_if_ne_t rfl (by first | omega | assumption) ?_
          refine i_iinc rfl rfl (by unfold iR; omega) (Nat.le_of_ble_eq_true rfl) rfl ?_
          refine i_goto rfl ?_
          -- at 3
          exact k1
        · have k2 := k2 hv
          refine i_if_ne_t rfl (by first | omega | assumption) ?_
          refine i_iinc rfl rfl (by unfold iR; omega) (Nat.le_of_ble_eq_true rfl) rfl ?_
          refine i_goto rfl ?_
          -- at 3
          exact k2
      · have z0 : (srm (fun i k => M 50 (11 * i + k)) g (M 41) (M 40) (i + 1)).1 = 0 := by rcases o3 with z | z; exact z; exact absurd z c
        have hV' := hV
        rw [srm_stop c (show i + 1 ≤ m by omega)] at hV'
        rw [z0] at pre
        refine ⟨_, fun hv => absurd (by rw [← hV']; exact hv) c, fun _ => pre _ ?_, frn, by rw [hV']; rfl, by rw [hV']; rfl⟩
        refine i_if_ne_f rfl (by first | omega | assumption) ?_
        refine i_iconst (n := 0) rfl (by unfold iR; omega) ?_
        -- at 26
        exact i_zreturn rfl rfl (by first | omega | assumption)
  exact loop m 0 M (by omega) rfl (Fr_r _ _) rfl rfl
set_option maxRecDepth 100000 in
theorem d_st2 {b : Bool} {M : iM} {g m : Nat} {x1 x2 x5 : Int} (hf : by8 (M 41) 720) (hq : Qq (M 40)) (hd : 0 < m → by8 (M 50) 128) (h48 : g + m ≤ 48) (h11 : m ≤ 11) {V : Int × (Nat → Int) × (Nat → Int)} (hV : V = srm (fun i k => M 50 (11 * i + k)) g (M 41) (M 40) m) : ∃ M', (V.1 = 1 → ∀ q, irun none zp_153 123 [some (iP 40), some (iI x1), some (iI x2), some (iI (g : Int)), some (iI (m : Int)), some (iI x5), some (iI (m : Int)), none, none] [] (SH b) M' 0 0 q → irun none zp_153 92 [some (iP 40), some (iI x1), some (iI x2), some (iI (g : Int)), some (iI (m : Int)), some (iI x5), some (iI 0), none, none] [] (SH b) M 0 0 q) ∧ (V.1 ≠ 1 → irun none zp_153 92 [some (iP 40), some (iI x1), some (iI x2), some (iI (g : Int)), some (iI (m : Int)), some (iI x5), some (iI 0), none, none] [] (SH b) M 0 0 (some 0, SH b, M')) ∧ Fr [40, 41, 51] M M' ∧ M' 41 = V.2.1 ∧ M' 40 = V.2.2 := by
  have hD : ∀ i, i < m → by8 (fun k => M 50 (11 * i + k)) 11 := fun i hi k hk => hd (by omega) _ (by omega)
  have ok := srm_ok (D := fun i k => M 50 (11 * i + k)) (first := g) hq hf hD
  have loop : ∀ (d i : Nat) (M1 : iM), i + d = m → (srm (fun i k => M 50 (11 * i + k)) g (M 41) (M 40) i).1 = 1 → Fr [40, 41, 51] M M1 → M1 41 = (srm (fun i k => M 50 (11 * i + k)) g (M 41) (M 40) i).2.1 → M1 40 = (srm (fun i k => M 50 (11 * i + k)) g (M 41) (M 40) i).2.2 → ∃ M', (V.1 = 1 → ∀ q, irun none zp_153 123 [some (iP 40), some (iI x1), some (iI x2), some (iI (g : Int)), some (iI (m : Int)), some (iI x5), some (iI (m : Int)), none, none] [] (SH b) M' 0 0 q → irun none zp_153 92 [some (iP 40), some (iI x1), some (iI x2), some (iI (g : Int)), some (iI (m : Int)), some (iI x5), some (iI (i : Int)), none, none] [] (SH b) M1 0 0 q) ∧ (V.1 ≠ 1 → irun none zp_153 92 [some (iP 40), some (iI x1), some (iI x2), some (iI (g : Int)), some (iI (m : Int)), some (iI x5), some (iI (i : Int)), none, none] [] (SH b) M1 0 0 (some 0, SH b, M')) ∧ Fr [40, 41, 51] M M' ∧ M' 41 = V.2.1 ∧ M' 40 = V.2.2 := by
    intro d
    induction d with
    | zero =>
      intro i M1 hi h1 fr e1 e2
      obtain rfl : i = m := by omega
      rw [← hV] at h1 e1 e2
      refine ⟨M1, fun _ q hq => ?_, fun z => absurd h1 z, fr, e1, e2⟩
      refine i_iload rfl rfl ?_
      refine i_iload rfl rfl ?_
      refine i_icmp_ge_t rfl (by first | omega | assumption) ?_
      -- at 123
      exact hq
    | succ d ih =>
      intro i M1 hi h1 fr e1 e2
      obtain ⟨o1, o2, _⟩ := ok i (by omega) (by omega)
      obtain ⟨T, st⟩ := d_store (b := b) (M := M1) (s := g + i) (fr := 11 * i) (by omega) (by omega) (by rw [e2]; exact o2) (by rw [e1]; exact o1) (by rw [fr 50 (by decide)]; exact hd (by omega))
      rw [fr 50 (by decide), e1, e2] at st
      have es : srm (fun i k => M 50 (11 * i + k)) g (M 41) (M 40) (i + 1) = st2m (srm (fun i k => M 50 (11 * i + k)) g (M 41) (M 40) i).2.1 (srm (fun i k => M 50 (11 * i + k)) g (M 41) (M 40) i).2.2 (g + i) (fun k => M 50 (11 * i + k)) := by
        show (if _ then _ else _) = _
        rw [if_pos h1]
      rw [← es] at st
      have o3 := (ok (i + 1) (by omega) (by omega)).2.2.1
      have pre : ∀ q, irun none zp_153 112 [some (iP 40), some (iI x1), some (iI x2), some (iI (g : Int)), some (iI (m : Int)), some (iI x5), some (iI (i : Int)), none, none] [iI (srm (fun i k => M 50 (11 * i + k)) g (M 41) (M 40) (i + 1)).1] (SH b) (va_up (va_up (va_up M1 40 (srm (fun i k => M 50 (11 * i + k)) g (M 41) (M 40) (i + 1)).2.2) 51 T) 41 (srm (fun i k => M 50 (11 * i + k)) g (M 41) (M 40) (i + 1)).2.1) 0 0 q → irun none zp_153 92 [some (iP 40), some (iI x1), some (iI x2), some (iI (g : Int)), some (iI (m : Int)), some (iI x5), some (iI (i : Int)), none, none] [] (SH b) M1 0 0 q := by
        intro q hq
        refine i_iload rfl rfl ?_
        refine i_iload rfl rfl ?_
        refine i_icmp_ge_f rfl (by first | omega | assumption) ?_
        refine i_aload_n rfl rfl ?_
        refine i_iload_n rfl rfl ?_
        refine i_iload rfl rfl ?_
        refine i_iadd rfl (by unfold iR; omega) ?_
        -- at 104
        rw [show (g : Int) + (i : Int) = ((g + i : Nat) : Int) by omega]
        refine i_bipush (n := 11) rfl (by unfold iR; omega) (by decide) ?_
        refine i_iload rfl rfl ?_
        refine i_imul rfl (by unfold iR; omega) ?_
        -- at 109
        rw [show (11 : Int) * (i : Int) = ((11 * i : Nat) : Int) by omega]
        refine i_call (T := (117, zp_117)) rfl rfl (st) rfl rfl rfl rfl rfl rfl rfl ?_
        try dsimp only
        exact hq
      have frn : Fr [40, 41, 51] M (va_up (va_up (va_up M1 40 (srm (fun i k => M 50 (11 * i + k)) g (M 41) (M 40) (i + 1)).2.2) 51 T) 41 (srm (fun i k => M 50 (11 * i + k)) g (M 41) (M 40) (i + 1)).2.1) := Fr_up (Fr_up (Fr_up fr (by decide)) (by decide)) (by decide)
      by_cases c : (srm (fun i k => M 50 (11 * i + k)) g (M 41) (M 40) (i + 1)).1 = 1
      · obtain ⟨M', k1, k2, k3⟩ := ih (i + 1) _ (by omega) c frn rfl rfl
        rw [c] at pre
        refine ⟨M', fun hv q hq => pre q ?_, fun hv => pre _ ?_, k3⟩
        · have k1 := k1 hv q hq
          refine i_if_ne_t rfl (by first | omega | assumption) ?_
          refine i_iinc rfl rfl (by unfold iR; omega) (Nat.le_of_ble_eq_true rfl) rfl ?_
          refine i_goto rfl ?_
          -- at 92
          exact k1
        · have k2 := k2 hv
          refine i_if_ne_t rfl (by first | omega | assumption) ?_
          refine i_iinc rfl rfl (by unfold iR; omega) (Nat.le_of_ble_eq_true rfl) rfl ?_
          refine i_goto rfl ?_
          -- at 92
          exact k2
      · have z0 : (srm (fun i k => M 50 (11 * i + k)) g (M 41) (M 40) (i + 1)).1 = 0 := by rcases o3 with z | z; exact z; exact absurd z c
        have hV' := hV
        rw [srm_stop c (show i + 1 ≤ m by omega)] at hV'
        rw [z0] at pre
        refine ⟨_, fun hv => absurd (by rw [← hV']; exact hv) c, fun _ => pre _ ?_, frn, by rw [hV']; rfl, by rw [hV']; rfl⟩
        refine i_if_ne_f rfl (by first | omega | assumption) ?_
        refine i_iconst (n := 0) rfl (by unfold iR; omega) ?_
        -- at 116
        exact i_zreturn rfl rfl (by first | omega | assumption)
  exact loop m 0 M (by omega) rfl (Fr_r _ _) rfl rfl
