def sr (D : Nat → Nat → Int) (first : Nat) (f O : Nat → Int) : Nat → Int × (Nat → Int) × (Nat → Int)
  | 0 => (1, f, O)
  | i + 1 => if (sr D first f O i).1 = 1 then st2 (sr D first f O i).2.1 (sr D first f O i).2.2 (first + i) (D i) else sr D first f O i
theorem st2_o {f O d : Nat → Int} {s : Nat} {N : Int} (hO : Oo O N) : Oo (st2 f O s d).2.2 (N + 2) := by
  unfold st2
  have h1 := O1_o hO
  have h2 := O1_o h1
  split
  · exact ⟨h1.1, h1.2.1, by have := h1.2.2; show O1 O 5 ≤ _; omega⟩
  · split
    · exact ⟨h2.1, h2.2.1, by have := h2.2.2; show O1 (O1 O) 5 ≤ _; omega⟩
    · exact ⟨h2.1, h2.2.1, by have := h2.2.2; show O1 (O1 O) 5 ≤ _; omega⟩
theorem st2_b {f O d : Nat → Int} {s : Nat} (hs : s < 48) (hf : by8 f 720) (hd : by8 d 11) : by8 (st2 f O s d).2.1 720 := by
  unfold st2
  have h1 := wS_b (s := s) hf hd
  split
  · exact hf
  · split
    · exact h1
    · exact wS_b h1 (jn8 h1 (by omega))
theorem st2_01 (f O d : Nat → Int) (s : Nat) : (st2 f O s d).1 = 0 ∨ (st2 f O s d).1 = 1 := by
  unfold st2
  split
  · exact Or.inl rfl
  · split
    · exact Or.inl rfl
    · exact Or.inr rfl
theorem sr_ok {D : Nat → Nat → Int} {first : Nat} {f O : Nat → Int} {N : Int} (hO : Oo O N) (hf : by8 f 720) (hD : ∀ i, by8 (D i) 11) : ∀ i, first + i ≤ 48 → by8 (sr D first f O i).2.1 720 ∧ Oo (sr D first f O i).2.2 (N + 2 * i) ∧ ((sr D first f O i).1 = 0 ∨ (sr D first f O i).1 = 1) := by
  intro i
  induction i with
  | zero => intro _; exact ⟨hf, by simpa [sr] using hO, Or.inr rfl⟩
  | succ i ih =>
    intro hi
    obtain ⟨h1, h2, h3⟩ := ih (by omega)
    unfold sr
    split
    · refine ⟨st2_b (by omega) h1 (hD i), ?_, st2_01 _ _ _ _⟩
      have := st2_o (f := (sr D first f O i).2.1) (d := D i) (s := first + i) h2
      rw [show N + 2 * ((i + 1 : Nat) : Int) = N + 2 * (i : Int) + 2 by omega]
      exact this
    · refine ⟨h1, ⟨h2.1, h2.2.1, ?_⟩, h3⟩
      have := h2.2.2
      omega
theorem sr_stop {D : Nat → Nat → Int} {first : Nat} {f O : Nat → Int} {i n : Nat} (h : (sr D first f O i).1 ≠ 1) (hi : i ≤ n) : sr D first f O n = sr D first f O i := by
  induction hi with
  | refl => rfl
  | step _ ih =>
    show (if _ then _ else _) = _
    rw [if_neg (by rw [ih]; exact h), ih]
set_option maxRecDepth 100000 in
theorem c_sectorsFor {sh : List zS} {M : iM} {n : Nat} (hn : n < 1000) : irun none zp_26 0 (i_ent [iI (n : Int)] 1) [] sh M 0 0 (some (((n + 10) / 11 : Nat) : Int), sh, M) := by
  refine i_iload_n rfl rfl ?_
  refine i_bipush (n := 11) rfl (by unfold iR; omega) (by decide) ?_
  refine i_iadd rfl (by unfold iR; omega) ?_
  refine i_iconst (n := 1) rfl (by unfold iR; omega) ?_
  refine i_isub rfl (by unfold iR; omega) ?_
  refine i_bipush (n := 11) rfl (by unfold iR; omega) (by decide) ?_
  refine i_idiv rfl (by first | omega | assumption) (by first | omega | assumption) ?_
  -- at 9
  rw [show ((n : Int) + 11 - 1) / 11 = (((n + 10) / 11 : Nat) : Int) by omega]
  exact i_ireturn rfl rfl
def Dz (m : Nat → Int) (size : Nat) (i k : Nat) : Int := if i * 11 + k < size then m (i * 11 + k) else 0
theorem Dz_b {m : Nat → Int} {size : Nat} (h : by8 m size) (i : Nat) : by8 (Dz m size i) 11 := by
  intro k hk
  unfold Dz
  split
  · exact h _ (by omega)
  · omega
set_option maxRecDepth 100000 in
theorem c_storeRun {b : Bool} {M : iM} {first t size n : Nat} {rs : List (Option Nat)} {N : Int} (ht : z_at (SH b) t = some (1, n, rs)) (ht1 : t ≠ 1) (ht2 : t ≠ 2) (ht3 : t ≠ 3) (ht4 : t ≠ 4) (hs : first + (size + 10) / 11 ≤ 48) (hsz : size ≤ n) (hn : n < 1000) (hO : Oo (M 1) N) (hNN : N < 900000000) (hf : by8 (M 2) 720) (hd : by8 (M t) size) (hm : ∀ x : Nat, x < 256 → M 3 x = hN 8 (x : Int)) :
    ∃ J, irun none zp_47 0 (i_ent [iP 1, iI (first : Int), iP t, iI (size : Int)] 5) [] (SH b) M 0 0 (some (sr (Dz (M t) size) first (M 2) (M 1) ((size + 10) / 11)).1, SH b, va_up (va_up (va_up M 1 (sr (Dz (M t) size) first (M 2) (M 1) ((size + 10) / 11)).2.2) 2 (sr (Dz (M t) size) first (M 2) (M 1) ((size + 10) / 11)).2.1) 4 J) := by
  generalize hc : (size + 10) / 11 = cnt at *
  have hD := Dz_b hd
  have hsr := sr_ok (first := first) hO hf hD
  have loop : ∀ (c i : Nat), i + c = cnt → (sr (Dz (M t) size) first (M 2) (M 1) i).1 = 1 → ∀ J : Nat → Int, ∃ J', irun none zp_47 3 [some (iP 1), some (iI (first : Int)), some (iP t), some (iI (size : Int)), some (iI (i : Int))] [] (SH b) (va_up (va_up (va_up M 1 (sr (Dz (M t) size) first (M 2) (M 1) i).2.2) 2 (sr (Dz (M t) size) first (M 2) (M 1) i).2.1) 4 J) 0 0 (some (sr (Dz (M t) size) first (M 2) (M 1) cnt).1, SH b, va_up (va_up (va_up M 1 (sr (Dz (M t) size) first (M 2) (M 1) cnt).2.2) 2 (sr (Dz (M t) size) first (M 2) (M 1) cnt).2.1) 4 J') := by
    intro c
    induction c with
    | zero =>
      intro i hi h1 J
      obtain rfl : i = cnt := by omega
      refine ⟨J, ?_⟩
      rw [h1]
      refine i_iload rfl rfl ?_
      refine i_iload_n rfl rfl ?_
      -- at 6
      refine i_call (T := (26, zp_26)) rfl rfl (c_sectorsFor (n := size) (by omega)) rfl rfl rfl rfl rfl rfl rfl ?_
      try dsimp only
      rw [hc]
      show irun none zp_47 9 _ [iI ((i : Nat) : Int), iI (i : Int)] _ _ 0 0 _
      refine i_icmp_ge_t rfl (by first | omega | assumption) ?_
      refine i_iconst (n := 1) rfl (by unfold iR; omega) ?_
      -- at 39
      exact i_zreturn rfl rfl (by first | omega | assumption)
    | succ c ih =>
      intro i hi h1 J
      obtain ⟨g1, g2, -⟩ := hsr i (by omega)
      generalize hF : (sr (Dz (M t) size) first (M 2) (M 1) i).2.1 = F at *
      generalize hP : (sr (Dz (M t) size) first (M 2) (M 1) i).2.2 = P at *
      have et : (va_up (va_up (va_up M 1 P) 2 F) 4 J) t = M t := by rw [up_n ht4, up_n ht2, up_n ht1]
      obtain ⟨J1, h2⟩ := c_storeSector (b := b) (M := va_up (va_up (va_up M 1 P) 2 F) 4 J) (s := first + i) (fr := i * 11) (size := size) (N := N + 2 * i) ht ht1 ht2 (by omega) hsz (by omega) hn g2 (by omega) g1 (by rw [et]; exact hd) hm
      rw [et] at h2
      have e1 : sr (Dz (M t) size) first (M 2) (M 1) (i + 1) = st2 F P (first + i) (Dz (M t) size i) := by
        show (if (sr (Dz (M t) size) first (M 2) (M 1) i).1 = 1 then _ else _) = _
        rw [if_pos h1, hF, hP]
      have h2 : irun none zp_48 0 (i_ent [iP 1, iI ((first + i : Nat) : Int), iP t, iI ((i * 11 : Nat) : Int), iI (size : Int)] 7) [] (SH b) (va_up (va_up (va_up M 1 P) 2 F) 4 J) 0 0 (some (st2 F P (first + i) (Dz (M t) size i)).1, SH b, va_up (va_up (va_up (va_up (va_up (va_up M 1 P) 2 F) 4 J) 1 (st2 F P (first + i) (Dz (M t) size i)).2.2) 2 (st2 F P (first + i) (Dz (M t) size i)).2.1) 4 J1) := h2
      rw [← e1, show va_up (va_up (va_up (va_up (va_up (va_up M 1 P) 2 F) 4 J) 1 (sr (Dz (M t) size) first (M 2) (M 1) (i + 1)).2.2) 2 (sr (Dz (M t) size) first (M 2) (M 1) (i + 1)).2.1) 4 J1 = va_up (va_up (va_up M 1 (sr (Dz (M t) size) first (M 2) (M 1) (i + 1)).2.2) 2 (sr (Dz (M t) size) first (M 2) (M 1) (i + 1)).2.1) 4 J1 by
        rw [up_sw (c := 4) (d := 1) (by decide), up_sw (c := 4) (d := 2) (by decide), up_up, up_sw (c := 2) (d := 1) (by decide), up_up, up_up]] at h2
      rcases (hsr (i + 1) (by omega)).2.2 with hr | hr
      · refine ⟨J1, ?_⟩
        rw [sr_stop (i := i + 1) (n := cnt) (by omega) (by omega), hr]
        refine i_iload rfl rfl ?_
        refine i_iload_n rfl rfl ?_
        -- at 6
        refine i_call (T := (26, zp_26)) rfl rfl (c_sectorsFor (n := size) (by omega)) rfl rfl rfl rfl rfl rfl rfl ?_
        try dsimp only
        rw [hc]
        show irun none zp_47 9 _ [iI ((cnt : Nat) : Int), iI (i : Int)] _ _ 0 0 _
        refine i_icmp_ge_f rfl (by first | omega | assumption) ?_
        refine i_aload_n rfl rfl ?_
        refine i_iload_n rfl rfl ?_
        refine i_iload rfl rfl ?_
        refine i_iadd rfl (by unfold iR; omega) ?_
        refine i_aload_n rfl rfl ?_
        refine i_iload rfl rfl ?_
        refine i_bipush (n := 11) rfl (by unfold iR; omega) (by decide) ?_
        refine i_imul rfl (by unfold iR; omega) ?_
        refine i_iload_n rfl rfl ?_
        -- at 24
        refine i_call (T := (48, zp_48)) rfl rfl (h2) rfl rfl rfl rfl rfl rfl rfl ?_
        try dsimp only
        show irun none zp_47 27 _ [iI (sr (Dz (M t) size) first (M 2) (M 1) (i + 1)).1] _ _ 0 0 _
        rw [hr]
        refine i_if_ne_f rfl (by first | omega | assumption) ?_
        refine i_iconst (n := 0) rfl (by unfold iR; omega) ?_
        -- at 31
        exact i_zreturn rfl rfl (by first | omega | assumption)
      · obtain ⟨J', h3⟩ := ih (i + 1) (by omega) hr J1
        refine ⟨J', ?_⟩
        refine i_iload rfl rfl ?_
        refine i_iload_n rfl rfl ?_
        -- at 6
        refine i_call (T := (26, zp_26)) rfl rfl (c_sectorsFor (n := size) (by omega)) rfl rfl rfl rfl rfl rfl rfl ?_
        try dsimp only
        rw [hc]
        show irun none zp_47 9 _ [iI ((cnt : Nat) : Int), iI (i : Int)] _ _ 0 0 _
        refine i_icmp_ge_f rfl (by first | omega | assumption) ?_
        refine i_aload_n rfl rfl ?_
        refine i_iload_n rfl rfl ?_
        refine i_iload rfl rfl ?_
        refine i_iadd rfl (by unfold iR; omega) ?_
        refine i_aload_n rfl rfl ?_
        refine i_iload rfl rfl ?_
        refine i_bipush (n := 11) rfl (by unfold iR; omega) (by decide) ?_
        refine i_imul rfl (by unfold iR; omega) ?_
        refine i_iload_n rfl rfl ?_
        -- at 24
        refine i_call (T := (48, zp_48)) rfl rfl (h2) rfl rfl rfl rfl rfl rfl rfl ?_
        try dsimp only
        show irun none zp_47 27 _ [iI (sr (Dz (M t) size) first (M 2) (M 1) (i + 1)).1] _ _ 0 0 _
        rw [hr]
        refine i_if_ne_t rfl (by first | omega | assumption) ?_
        refine i_iinc rfl rfl (by unfold iR; omega) (Nat.le_of_ble_eq_true rfl) rfl ?_
        refine i_goto rfl ?_
        -- at 3
        exact h3
  obtain ⟨J, h⟩ := loop cnt 0 (by omega) rfl (M 4)
  refine ⟨J, ?_⟩
  have h : irun none zp_47 3 [some (iP 1), some (iI (first : Int)), some (iP t), some (iI (size : Int)), some (iI ((0 : Nat) : Int))] [] (SH b) (va_up (va_up (va_up M 1 (M 1)) 2 (M 2)) 4 (M 4)) 0 0 _ := h
  rw [up_id M 1 rfl, up_id M 2 rfl, up_id M 4 rfl] at h
  refine i_iconst (n := 0) rfl (by unfold iR; omega) ?_
  refine i_istore rfl (Nat.le_of_ble_eq_true rfl) rfl ?_
  -- at 3
  exact h
def Q1 (Q : Nat → Int) : Nat → Int := fun k => if Q 2 = 1 ∧ Q 3 = 0 then (if k = 1 then 1 else if k = 2 then 0 else Q k) else (if k = 3 then (if Q 2 = 1 then Q 3 - 1 else Q 3) else Q k)
def Qq (Q : Nat → Int) : Prop := (Q 2 = 0 ∨ Q 2 = 1) ∧ 0 ≤ Q 3 ∧ Q 3 < 1000
theorem Q1_q {Q : Nat → Int} (h : Qq Q) : Qq (Q1 Q) := by
  unfold Qq Q1 at *
  simp
  grind
set_option maxRecDepth 100000 in
theorem d_inscribe {b : Bool} {M : iM} {s : Nat} (hs : s < 60) (hq : Qq (M 40)) (hd : by8 (M 51) 11) : irun none zp_116 0 (i_ent [iP 40, iI (s : Int)] 3) [] (SH b) M 0 0 (if M 40 2 = 1 ∧ M 40 3 = 0 then (some 0, SH b, va_up M 40 (Q1 (M 40))) else (some 1, SH b, va_up (va_up (va_up M 40 (Q1 (M 40))) 51 (va_up (M 51) 11 (chk (M 51) 0))) 41 (wS (M 41) s (M 51)))) := by
  obtain ⟨q1, q2, q3⟩ := hq
  by_cases h : M 40 2 = 1 ∧ M 40 3 = 0
  · rw [if_pos h]
    have e1 : i_st (i_st M 40 1 1) 40 2 0 = va_up M 40 (Q1 (M 40)) := by
      rw [show i_st M 40 1 1 = va_up M 40 (va_up (M 40) 1 1) from rfl, up_st]
      refine up_c ?_
      funext k
      unfold Q1
      grind [va_up]
    rw [← e1]
    refine i_aload_n rfl rfl ?_
    refine i_getf rfl rfl rfl rfl (by decide) ?_
    refine i_if_eq_f rfl (by first | omega | assumption) ?_
    refine i_aload_n rfl rfl ?_
    refine i_getf rfl rfl rfl rfl (by decide) ?_
    refine i_if_ne_f rfl (by first | omega | assumption) ?_
    refine i_aload_n rfl rfl ?_
    refine i_iconst (n := 1) rfl (by unfold iR; omega) ?_
    refine i_putz rfl rfl rfl rfl (by first | omega | assumption) ?_
    refine i_aload_n rfl rfl ?_
    refine i_iconst (n := 0) rfl (by unfold iR; omega) ?_
    refine i_putz rfl rfl rfl rfl (by first | omega | assumption) ?_
    refine i_iconst (n := 0) rfl (by unfold iR; omega) ?_
    -- at 25
    exact i_zreturn rfl rfl (by first | omega | assumption)
  · rw [if_neg h]
    have e1 : ∀ v : Int, v = (if M 40 2 = 1 then M 40 3 - 1 else M 40 3) → i_st M 40 3 v = va_up M 40 (Q1 (M 40)) := by
      intro v hv
      rw [st_M rfl]
      refine up_c ?_
      funext k
      unfold Q1
      grind [va_up]
    have tail : irun none zp_116 50 [some (iP 40), some (iI (s : Int)), none] [] (SH b) (va_up M 40 (Q1 (M 40))) 0 0 (some 1, SH b, va_up (va_up (va_up M 40 (Q1 (M 40))) 51 (va_up (M 51) 11 (chk (M 51) 0))) 41 (wS (M 41) s (M 51))) := by
      have loop : ∀ (c k : Nat), k + c = 12 → irun none zp_116 63 [some (iP 40), some (iI (s : Int)), some (iI (k : Int))] [] (SH b) (va_up (va_up (va_up M 40 (Q1 (M 40))) 51 (va_up (M 51) 11 (chk (M 51) 0))) 41 (fun j => if s * 12 ≤ j ∧ j < s * 12 + k then va_up (M 51) 11 (chk (M 51) 0) (j - s * 12) else M 41 j)) 0 0 (some 1, SH b, va_up (va_up (va_up M 40 (Q1 (M 40))) 51 (va_up (M 51) 11 (chk (M 51) 0))) 41 (wS (M 41) s (M 51))) := by
        intro c
        induction c with
        | zero =>
          intro k hk
          obtain rfl : k = 12 := by omega
          rw [up_c (g := wS (M 41) s (M 51))]
          · refine i_iload_n rfl rfl ?_
            refine i_bipush (n := 12) rfl (by unfold iR; omega) (by decide) ?_
            refine i_icmp_ge_t rfl (by first | omega | assumption) ?_
            refine i_iconst (n := 1) rfl (by unfold iR; omega) ?_
            -- at 93
            exact i_zreturn rfl rfl (by first | omega | assumption)
          · funext j
            unfold wS
            grind [va_up]
        | succ c ih =>
          intro k hk
          have hn := ih (k + 1) (by omega)
          refine i_iload_n rfl rfl ?_
          refine i_bipush (n := 12) rfl (by unfold iR; omega) (by decide) ?_
          refine i_icmp_ge_f rfl (by first | omega | assumption) ?_
          refine i_aload_n rfl rfl ?_
          refine i_getr rfl rfl rfl rfl (by decide) rfl ?_
          refine i_bipush (n := 12) rfl (by unfold iR; omega) (by decide) ?_
          refine i_iload_n rfl rfl ?_
          refine i_imul rfl (by unfold iR; omega) ?_
          refine i_iload_n rfl rfl ?_
          refine i_iadd rfl (by unfold iR; omega) ?_
          refine i_aload_n rfl rfl ?_
          refine i_getr rfl rfl rfl rfl (by decide) rfl ?_
          refine i_iload_n rfl rfl ?_
          refine i_iald rfl rfl (by first | omega | assumption) (by first | omega | assumption) (by decide) ?_
          refine i_iast rfl rfl (by first | omega | assumption) (by first | omega | assumption) ?_
          refine i_iinc rfl rfl (by unfold iR; omega) (Nat.le_of_ble_eq_true rfl) rfl ?_
          refine i_goto rfl ?_
          -- at 63
          rw [st_up (g := fun j => if s * 12 ≤ j ∧ j < s * 12 + (k + 1) then va_up (M 51) 11 (chk (M 51) 0) (j - s * 12) else M 41 j)]
          · exact hn
          · rw [show (12 * (s : Int) + (k : Int)).toNat = s * 12 + k by omega, show (k : Int).toNat = k by omega]
            show va_up _ (s * 12 + k) (va_up (M 51) 11 (chk (M 51) 0) k) = _
            funext j
            have e : va_up (M 51) 11 (chk (M 51) 0) k = va_up (M 51) 11 (chk (M 51) 0) (s * 12 + k - s * 12) := by rw [show s * 12 + k - s * 12 = k by omega]
            generalize va_up (M 51) 11 (chk (M 51) 0) = G at *
            grind [va_up]
      have h0 := loop 12 0 rfl
      rw [show (fun j => if s * 12 ≤ j ∧ j < s * 12 + 0 then va_up (M 51) 11 (chk (M 51) 0) (j - s * 12) else M 41 j) = M 41 by funext j; rw [if_neg (by omega)], up_id (va_up (va_up M 40 (Q1 (M 40))) 51 (va_up (M 51) 11 (chk (M 51) 0))) 41 (f := M 41) rfl] at h0
      refine i_aload_n rfl rfl ?_
      refine i_getr rfl rfl rfl rfl (by decide) rfl ?_
      refine i_bipush (n := 11) rfl (by unfold iR; omega) (by decide) ?_
      refine i_aload_n rfl rfl ?_
      -- at 57
      refine i_call (T := (110, zp_110)) rfl rfl (d_check (M := va_up M 40 (Q1 (M 40))) hd) rfl rfl rfl rfl rfl rfl rfl ?_
      try dsimp only
      refine i_iast rfl rfl (by first | omega | assumption) (by first | omega | assumption) ?_
      refine i_iconst (n := 0) rfl (by unfold iR; omega) ?_
      refine i_istore_n rfl (Nat.le_of_ble_eq_true rfl) rfl ?_
      -- at 63
      exact h0
    rcases q1 with q1 | q1
    · have e := e1 (M 40 3) (by rw [if_neg (by omega)])
      refine i_aload_n rfl rfl ?_
      refine i_getf rfl rfl rfl rfl (by decide) ?_
      refine i_if_eq_t rfl (by first | omega | assumption) ?_
      refine i_aload_n rfl rfl ?_
      refine i_aload_n rfl rfl ?_
      refine i_getf rfl rfl rfl rfl (by decide) ?_
      refine i_if_eq_t rfl (by first | omega | assumption) ?_
      refine i_aload_n rfl rfl ?_
      refine i_getf rfl rfl rfl rfl (by decide) ?_
      refine i_puti rfl rfl rfl rfl ?_
      -- at 50
      rw [e]
      exact tail
    · have e := e1 (M 40 3 - 1) (by rw [if_pos q1])
      refine i_aload_n rfl rfl ?_
      refine i_getf rfl rfl rfl rfl (by decide) ?_
      refine i_if_eq_f rfl (by first | omega | assumption) ?_
      refine i_aload_n rfl rfl ?_
      refine i_getf rfl rfl rfl rfl (by decide) ?_
      refine i_if_ne_t rfl (by first | omega | assumption) ?_
      refine i_aload_n rfl rfl ?_
      refine i_aload_n rfl rfl ?_
      refine i_getf rfl rfl rfl rfl (by decide) ?_
      refine i_if_eq_f rfl (by first | omega | assumption) ?_
      refine i_aload_n rfl rfl ?_
      refine i_getf rfl rfl rfl rfl (by decide) ?_
      refine i_iconst (n := 1) rfl (by unfold iR; omega) ?_
      refine i_isub rfl (by unfold iR; omega) ?_
      refine i_goto rfl ?_
      refine i_puti rfl rfl rfl rfl ?_
      -- at 50
      rw [e]
      exact tail
def Q2 (Q : Nat → Int) : Int := if Q 2 = 1 ∧ Q 3 = 0 then 0 else 1
def st2m (f Q : Nat → Int) (s : Nat) (d : Nat → Int) : Int × (Nat → Int) × (Nat → Int) :=
  if Q 2 = 1 ∧ Q 3 = 0 then (0, f, Q1 Q) else if Q1 Q 2 = 1 ∧ Q1 Q 3 = 0 then (0, wS f s d, Q1 (Q1 Q)) else (1, wS (wS f s d) (48 + s / 4) (jn (wS f s d) (s / 4) 4), Q1 (Q1 Q))
set_option maxRecDepth 100000 in
theorem d_store {b : Bool} {M : iM} {s fr : Nat} (hs : s < 48) (hfr : fr + 11 ≤ 128) (hq : Qq (M 40)) (hf : by8 (M 41) 720) (hd : by8 (M 50) 128) :
    ∃ S, irun none zp_117 0 (i_ent [iP 40, iI (s : Int), iI (fr : Int)] 4) [] (SH b) M 0 0 (some (st2m (M 41) (M 40) s (fun k => M 50 (fr + k))).1, SH b, va_up (va_up (va_up M 40 (st2m (M 41) (M 40) s (fun k => M 50 (fr + k))).2.2) 51 S) 41 (st2m (M 41) (M 40) s (fun k => M 50 (fr + k))).2.1) := by
  generalize hde : (fun k => M 50 (fr + k)) = d
  have hd8 : by8 d 11 := by
    intro j hj
    rw [← hde]
    exact hd _ (by omega)
  have loop : ∀ (q : Option Int × List zS × iM), irun none zp_117 28 [some (iP 40), some (iI (s : Int)), some (iI (fr : Int)), some (iI 11)] [] (SH b) (va_up M 51 (fun j => if j < 11 then d j else M 51 j)) 0 0 q →
      ∀ (c k : Nat), k + c = 11 → irun none zp_117 2 [some (iP 40), some (iI (s : Int)), some (iI (fr : Int)), some (iI (k : Int))] [] (SH b) (va_up M 51 (fun j => if j < k then d j else M 51 j)) 0 0 q := by
    intro q kq c
    induction c with
    | zero =>
      intro k hk
      obtain rfl : k = 11 := by omega
      refine i_iload_n rfl rfl ?_
      refine i_bipush (n := 11) rfl (by unfold iR; omega) (by decide) ?_
      refine i_icmp_ge_t rfl (by first | omega | assumption) ?_
      -- at 28
      exact kq
    | succ c ih =>
      intro k hk
      have hn := ih (k + 1) (by omega)
      refine i_iload_n rfl rfl ?_
      refine i_bipush (n := 11) rfl (by unfold iR; omega) (by decide) ?_
      refine i_icmp_ge_f rfl (by first | omega | assumption) ?_
      refine i_aload_n rfl rfl ?_
      refine i_getr rfl rfl rfl rfl (by decide) rfl ?_
      refine i_iload_n rfl rfl ?_
      refine i_aload_n rfl rfl ?_
      refine i_getr rfl rfl rfl rfl (by decide) rfl ?_
      refine i_iload_n rfl rfl ?_
      refine i_iload_n rfl rfl ?_
      refine i_iadd rfl (by unfold iR; omega) ?_
      refine i_iald rfl rfl (by first | omega | assumption) (by first | omega | assumption) (by decide) ?_
      refine i_iast rfl rfl (by first | omega | assumption) (by first | omega | assumption) ?_
      refine i_iinc rfl rfl (by unfold iR; omega) (Nat.le_of_ble_eq_true rfl) rfl ?_
      refine i_goto rfl ?_
      -- at 2
      rw [st_up (g := fun j => if j < k + 1 then d j else M 51 j)]
      · exact hn
      · rw [show ((fr : Int) + (k : Int)).toNat = fr + k by omega, show (k : Int).toNat = k by omega]
        show va_up _ k (M 50 (fr + k)) = _
        rw [show M 50 (fr + k) = d k by rw [← hde]]
        funext j
        grind [va_up]
  have hd51 : by8 ((va_up M 51 (fun j => if j < 11 then d j else M 51 j)) 51) 11 := by
    intro j hj
    show 0 ≤ (if j < 11 then d j else _) ∧ (if j < 11 then d j else _) < 256
    rw [if_pos hj]
    exact hd8 j hj
  have hi1 := d_inscribe (b := b) (M := va_up M 51 (fun j => if j < 11 then d j else M 51 j)) (s := s) (by omega) hq hd51
  have ew : wS (M 41) s ((va_up M 51 (fun j => if j < 11 then d j else M 51 j)) 51) = wS (M 41) s d := wS_c (fun k hk => by
    show (if k < 11 then _ else _) = _
    rw [if_pos hk])
  have h00 : ∀ q, irun none zp_117 2 [some (iP 40), some (iI (s : Int)), some (iI (fr : Int)), some (iI ((0 : Nat) : Int))] [] (SH b) (va_up M 51 (fun j => if j < 0 then d j else M 51 j)) 0 0 q → irun none zp_117 0 (i_ent [iP 40, iI (s : Int), iI (fr : Int)] 4) [] (SH b) M 0 0 q := by
    intro q h
    rw [up_id M 51 (f := fun j => if j < 0 then d j else M 51 j) (by funext j; rw [if_neg (by omega)])] at h
    refine i_iconst (n := 0) rfl (by unfold iR; omega) ?_
    refine i_istore_n rfl (Nat.le_of_ble_eq_true rfl) rfl ?_
    -- at 2
    exact h
  by_cases h0 : M 40 2 = 1 ∧ M 40 3 = 0
  · refine ⟨fun j => if j < 11 then d j else M 51 j, ?_⟩
    have e : st2m (M 41) (M 40) s d = (0, M 41, Q1 (M 40)) := by unfold st2m; rw [if_pos h0]
    rw [e]
    try dsimp only
    rw [show va_up (va_up (va_up M 40 (Q1 (M 40))) 51 (fun j => if j < 11 then d j else M 51 j)) 41 (M 41) = va_up (va_up M 51 (fun j => if j < 11 then d j else M 51 j)) 40 (Q1 (M 40)) by
      rw [up_id (va_up (va_up M 40 (Q1 (M 40))) 51 (fun j => if j < 11 then d j else M 51 j)) 41 (f := M 41) rfl, up_sw (by decide)]]
    rw [if_pos (show (va_up M 51 (fun j => if j < 11 then d j else M 51 j)) 40 2 = 1 ∧ (va_up M 51 (fun j => if j < 11 then d j else M 51 j)) 40 3 = 0 from h0)] at hi1
    refine h00 _ (loop _ ?_ 11 0 rfl)
    refine i_aload_n rfl rfl ?_
    refine i_iload_n rfl rfl ?_
    -- at 30
    refine i_call (T := (116, zp_116)) rfl rfl (hi1) rfl rfl rfl rfl rfl rfl rfl ?_
    try dsimp only
    refine i_if_ne_f rfl (by first | omega | assumption) ?_
    refine i_iconst (n := 0) rfl (by unfold iR; omega) ?_
    -- at 37
    exact i_zreturn rfl rfl (by first | omega | assumption)
  · rw [if_neg (show ¬ ((va_up M 51 (fun j => if j < 11 then d j else M 51 j)) 40 2 = 1 ∧ (va_up M 51 (fun j => if j < 11 then d j else M 51 j)) 40 3 = 0) from h0)] at hi1
    have hf1 := wS_b (s := s) hf hd8
    have hq1 := Q1_q hq
    generalize hS1 : va_up ((va_up M 51 (fun j => if j < 11 then d j else M 51 j)) 51) 11 (chk ((va_up M 51 (fun j => if j < 11 then d j else M 51 j)) 51) 0) = S1 at hi1
    have hi1 : irun none zp_116 0 (i_ent [iP 40, iI (s : Int)] 3) [] (SH b) (va_up M 51 (fun j => if j < 11 then d j else M 51 j)) 0 0 (some 1, SH b, va_up (va_up (va_up (va_up M 51 (fun j => if j < 11 then d j else M 51 j)) 40 (Q1 (M 40))) 51 S1) 41 (wS (M 41) s d)) := by rw [← ew]; exact hi1
    rw [show va_up (va_up (va_up (va_up M 51 (fun j => if j < 11 then d j else M 51 j)) 40 (Q1 (M 40))) 51 S1) 41 (wS (M 41) s d) = va_up (va_up (va_up M 40 (Q1 (M 40))) 51 S1) 41 (wS (M 41) s d) by rw [up_sw (c := 51) (d := 40) (by decide), up_up]] at hi1
    have hj := d_join (b := b) (M := va_up (va_up (va_up M 40 (Q1 (M 40))) 51 S1) 41 (wS (M 41) s d)) (g := s / 4) (lo := 4) (by omega) hf1
    generalize hS2 : (fun k => if k < 11 then jn ((va_up (va_up (va_up M 40 (Q1 (M 40))) 51 S1) 41 (wS (M 41) s d)) 41) (s / 4) 4 k else (va_up (va_up (va_up M 40 (Q1 (M 40))) 51 S1) 41 (wS (M 41) s d)) 51 k) = S2 at hj
    have hS2' : ∀ k, k < 11 → S2 k = jn (wS (M 41) s d) (s / 4) 4 k := by
      intro k hk
      rw [← hS2]
      try dsimp only
      rw [if_pos hk]
      rfl
    rw [show va_up (va_up (va_up (va_up M 40 (Q1 (M 40))) 51 S1) 41 (wS (M 41) s d)) 51 S2 = va_up (va_up (va_up M 40 (Q1 (M 40))) 51 S2) 41 (wS (M 41) s d) by rw [up_sw (c := 41) (d := 51) (by decide), up_up]] at hj
    have hi2 := d_inscribe (b := b) (M := va_up (va_up (va_up M 40 (Q1 (M 40))) 51 S2) 41 (wS (M 41) s d)) (s := 48 + s / 4) (by omega) hq1 (fun k hk => by
      show 0 ≤ S2 k ∧ S2 k < 256
      rw [hS2' k hk]
      exact jn_b hf1 (by omega) (by omega))
    have ew2 : wS (wS (M 41) s d) (48 + s / 4) S2 = wS (wS (M 41) s d) (48 + s / 4) (jn (wS (M 41) s d) (s / 4) 4) := wS_c hS2'
    by_cases h1 : Q1 (M 40) 2 = 1 ∧ Q1 (M 40) 3 = 0
    · refine ⟨S2, ?_⟩
      have e : st2m (M 41) (M 40) s d = (0, wS (M 41) s d, Q1 (Q1 (M 40))) := by unfold st2m; rw [if_neg h0, if_pos h1]
      rw [e]
      try dsimp only
      rw [if_pos (show (va_up (va_up (va_up M 40 (Q1 (M 40))) 51 S2) 41 (wS (M 41) s d)) 40 2 = 1 ∧ (va_up (va_up (va_up M 40 (Q1 (M 40))) 51 S2) 41 (wS (M 41) s d)) 40 3 = 0 from h1)] at hi2
      have hi2 : irun none zp_116 0 (i_ent [iP 40, iI ((48 + s / 4 : Nat) : Int)] 3) [] (SH b) (va_up (va_up (va_up M 40 (Q1 (M 40))) 51 S2) 41 (wS (M 41) s d)) 0 0 (some 0, SH b, va_up (va_up (va_up (va_up M 40 (Q1 (M 40))) 51 S2) 41 (wS (M 41) s d)) 40 (Q1 (Q1 (M 40)))) := hi2
      rw [show va_up (va_up (va_up (va_up M 40 (Q1 (M 40))) 51 S2) 41 (wS (M 41) s d)) 40 (Q1 (Q1 (M 40))) = va_up (va_up (va_up M 40 (Q1 (Q1 (M 40)))) 51 S2) 41 (wS (M 41) s d) by rw [up_sw (c := 41) (d := 40) (by decide), up_sw (c := 51) (d := 40) (by decide), up_up]] at hi2
      refine h00 _ (loop _ ?_ 11 0 rfl)
      refine i_aload_n rfl rfl ?_
      refine i_iload_n rfl rfl ?_
      -- at 30
      refine i_call (T := (116, zp_116)) rfl rfl (hi1) rfl rfl rfl rfl rfl rfl rfl ?_
      try dsimp only
      refine i_if_ne_t rfl (by first | omega | assumption) ?_
      refine i_aload_n rfl rfl ?_
      refine i_iload_n rfl rfl ?_
      refine i_iconst (n := 4) rfl (by unfold iR; omega) ?_
      refine i_idiv rfl (by first | omega | assumption) (by first | omega | assumption) ?_
      refine i_iconst (n := 4) rfl (by unfold iR; omega) ?_
      -- at 43
      refine i_call (T := (114, zp_114)) rfl rfl (hj) rfl rfl rfl rfl rfl rfl rfl ?_
      try dsimp only
      refine i_aload_n rfl rfl ?_
      refine i_bipush (n := 48) rfl (by unfold iR; omega) (by decide) ?_
      refine i_iload_n rfl rfl ?_
      refine i_iconst (n := 4) rfl (by unfold iR; omega) ?_
      refine i_idiv rfl (by first | omega | assumption) (by first | omega | assumption) ?_
      refine i_iadd rfl (by unfold iR; omega) ?_
      -- at 53
      refine i_call (T := (116, zp_116)) rfl rfl (hi2) rfl rfl rfl rfl rfl rfl rfl ?_
      try dsimp only
      exact i_zreturn rfl rfl (by first | omega | assumption)
    · refine ⟨va_up S2 11 (chk S2 0), ?_⟩
      have e : st2m (M 41) (M 40) s d = (1, wS (wS (M 41) s d) (48 + s / 4) (jn (wS (M 41) s d) (s / 4) 4), Q1 (Q1 (M 40))) := by unfold st2m; rw [if_neg h0, if_neg h1]
      rw [e]
      try dsimp only
      rw [if_neg (show ¬ ((va_up (va_up (va_up M 40 (Q1 (M 40))) 51 S2) 41 (wS (M 41) s d)) 40 2 = 1 ∧ (va_up (va_up (va_up M 40 (Q1 (M 40))) 51 S2) 41 (wS (M 41) s d)) 40 3 = 0) from h1)] at hi2
      have hi2 : irun none zp_116 0 (i_ent [iP 40, iI ((48 + s / 4 : Nat) : Int)] 3) [] (SH b) (va_up (va_up (va_up M 40 (Q1 (M 40))) 51 S2) 41 (wS (M 41) s d)) 0 0 (some 1, SH b, va_up (va_up (va_up (va_up (va_up (va_up M 40 (Q1 (M 40))) 51 S2) 41 (wS (M 41) s d)) 40 (Q1 (Q1 (M 40)))) 51 (va_up S2 11 (chk S2 0))) 41 (wS (wS (M 41) s d) (48 + s / 4) S2)) := hi2
      rw [ew2, show va_up (va_up (va_up (va_up (va_up (va_up M 40 (Q1 (M 40))) 51 S2) 41 (wS (M 41) s d)) 40 (Q1 (Q1 (M 40)))) 51 (va_up S2 11 (chk S2 0))) 41 (wS (wS (M 41) s d) (48 + s / 4) (jn (wS (M 41) s d) (s / 4) 4)) = va_up (va_up (va_up M 40 (Q1 (Q1 (M 40)))) 51 (va_up S2 11 (chk S2 0))) 41 (wS (wS (M 41) s d) (48 + s / 4) (jn (wS (M 41) s d) (s / 4) 4)) by
        rw [up_sw (c := 41) (d := 40) (by decide), up_sw (c := 41) (d := 51) (by decide), up_up, up_sw (c := 51) (d := 40) (by decide), up_up, up_up]] at hi2
      refine h00 _ (loop _ ?_ 11 0 rfl)
      refine i_aload_n rfl rfl ?_
      refine i_iload_n rfl rfl ?_
      -- at 30
      refine i_call (T := (116, zp_116)) rfl rfl (hi1) rfl rfl rfl rfl rfl rfl rfl ?_
      try dsimp only
      refine i_if_ne_t rfl (by first | omega | assumption) ?_
      refine i_aload_n rfl rfl ?_
      refine i_iload_n rfl rfl ?_
      refine i_iconst (n := 4) rfl (by unfold iR; omega) ?_
      refine i_idiv rfl (by first | omega | assumption) (by first | omega | assumption) ?_
      refine i_iconst (n := 4) rfl (by unfold iR; omega) ?_
      -- at 43
      refine i_call (T := (114, zp_114)) rfl rfl (hj) rfl rfl rfl rfl rfl rfl rfl ?_
      try dsimp only
      refine i_aload_n rfl rfl ?_
      refine i_bipush (n := 48) rfl (by unfold iR; omega) (by decide) ?_
      refine i_iload_n rfl rfl ?_
      refine i_iconst (n := 4) rfl (by unfold iR; omega) ?_
      refine i_idiv rfl (by first | omega | assumption) (by first | omega | assumption) ?_
      refine i_iadd rfl (by unfold iR; omega) ?_
      -- at 53
      refine i_call (T := (116, zp_116)) rfl rfl (hi2) rfl rfl rfl rfl rfl rfl rfl ?_
      try dsimp only
      exact i_zreturn rfl rfl (by first | omega | assumption)
