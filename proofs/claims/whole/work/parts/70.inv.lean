abbrev pI (b : Bool) : Nat := bif b then 38 else 36
abbrev pP (b : Bool) : Nat := bif b then 36 else 38
def I1 (M : iM) : Prop := by8 (M 41) 720 ∧ (∀ j, M 2 j = M 41 j) ∧ (∀ x : Nat, x < 256 → M 3 x = hN 8 (x : Int))
def I2 (w : Int) (M : iM) : Prop := (M 1 4 = 0 ∨ M 1 4 = 1) ∧ M 40 1 = M 1 4 ∧ (M 40 2 = 0 ∨ M 40 2 = 1) ∧ 0 ≤ M 40 3 ∧ M 40 3 ≤ 200 ∧ M 1 3 = (if M 40 2 = 1 then M 40 3 else -1) ∧ 0 ≤ M 1 5 ∧ M 1 5 ≤ w
def Ent (f : Nat → Int) (k : Nat) : Prop := (0 ≤ f (7 * k) ∧ f (7 * k) ≤ 7) ∧ (1 ≤ f (7 * k + 1) ∧ f (7 * k + 1) ≤ 255) ∧ 2 ≤ f (7 * k + 2) ∧ 1 ≤ f (7 * k + 3) ∧ f (7 * k + 2) + f (7 * k + 3) ≤ 48 ∧ (0 ≤ f (7 * k + 4) ∧ f (7 * k + 4) ≤ 255) ∧ (0 ≤ f (7 * k + 5) ∧ f (7 * k + 5) ≤ 24) ∧ (0 ≤ f (7 * k + 6) ∧ f (7 * k + 6) ≤ 255)
/-- an index: its words, their number, first sector, sectors, header's number -/
def I3 (p : Nat) (M : iM) : Prop := (0 ≤ M p 1 ∧ M p 1 ≤ 10) ∧ M 42 0 = M p 1 ∧ (∀ k : Nat, (k : Int) < 7 * M p 1 → M 42 (1 + k) = M (p + 1) k) ∧ (∀ k : Nat, (k : Int) < M p 1 → Ent (M (p + 1)) k) ∧
  (∀ k : Nat, (k : Int) + 1 < M p 1 → M (p + 1) (7 * k) < M (p + 1) (7 * (k + 1)) ∨ (M (p + 1) (7 * k) = M (p + 1) (7 * (k + 1)) ∧ M (p + 1) (7 * k + 1) < M (p + 1) (7 * (k + 1) + 1))) ∧
  (M 40 8 = M p 2 ∧ 0 ≤ M p 2 ∧ M p 2 ≤ 255) ∧ (M 40 6 = M p 3 ∧ 0 ≤ M p 3 ∧ M p 3 ≤ 255) ∧ (M 40 7 = M p 4 ∧ 0 ≤ M p 4 ∧ M p 4 ≤ 255) ∧ ∀ k : Nat, (k : Int) < M p 1 → M (p + 1) (7 * k + 1) ≤ M 32 (M (p + 1) (7 * k)).toNat
def I4 (M : iM) : Prop := (M 40 9 = M 0 8 ∧ 0 ≤ M 0 8 ∧ M 0 8 ≤ 255) ∧ ∀ k, k < 8 → M 44 k = M 32 k ∧ 0 ≤ M 32 k ∧ M 32 k ≤ 255
def I5 (M : iM) : Prop := (M 40 12 = M 5 5 ∧ 0 ≤ M 5 5 ∧ M 5 5 ≤ 24) ∧ ∀ k : Nat, (k : Int) < M 5 5 → M 45 k = M 6 k ∧ 0 ≤ M 6 k ∧ M 6 k < 256
def sm (f : Nat → Int) : Nat → Int
  | 0 => 0
  | n + 1 => sm f n + f n
def I6 (M : iM) : Prop := (M 40 13 = M 5 6 ∧ 0 ≤ M 5 6 ∧ M 5 6 ≤ 4) ∧ (M 40 14 = M 5 7 ∧ M 5 7 = sm (M 9) (M 5 6).toNat) ∧ (∀ k : Nat, (k : Int) < M 5 6 → (M 46 k = M 8 k ∧ 0 ≤ M 8 k ∧ M 8 k ≤ 7) ∧ M 47 k = M 9 k ∧ 0 ≤ M 9 k ∧ M 9 k ≤ 24) ∧ ∀ k : Nat, (k : Int) < M 5 7 → M 48 k = M 7 k ∧ 0 ≤ M 7 k ∧ M 7 k < 256
def I7 (p : Nat) (M : iM) : Prop := (M 40 15 = M 5 8 ∧ M 5 8 = sm (M 10) 10) ∧ ∀ k : Nat, k < 10 → M 49 k = M 10 k ∧ (M 10 k = 0 ∨ M 10 k = 1) ∧ (M p 1 ≤ k → M 10 k = 0)
def I8 (M : iM) : Prop := (M 40 41 = M 0 7 ∧ 0 ≤ M 0 7 ∧ M 0 7 ≤ 24) ∧ ∀ k : Nat, (k : Int) < M 0 7 → M 62 k = M 35 k
def Inv (w : Int) (b : Bool) (M : iM) : Prop := I1 M ∧ I2 w M ∧ I3 (pI b) M ∧ I4 M ∧ I5 M ∧ I6 M ∧ I7 (pI b) M ∧ I8 M
/-- a call of the class and the same call of the reference answer alike -/
def Op (w : Int) (b : Bool) (M : iM) (X D : zP) (as : List iV) : Prop := ∃ (r : Int) (b' : Bool) (M1 M2 : iM), irun none X 0 (i_ent (iP 0 :: as) (z_mL X)) [] (SH b) M 0 0 (some r, SH b', M1) ∧ irun none D 0 (i_ent (iP 40 :: as) (z_mL D)) [] (SH b') M1 0 0 (some r, SH b', M2) ∧ Inv (w + 300) b' M2
theorem Inv_w {w v : Int} {b : Bool} {M : iM} (h : Inv w b M) (hv : w ≤ v) : Inv v b M := by
  obtain ⟨h1, h2, h3⟩ := h
  refine ⟨h1, ?_, h3⟩
  obtain ⟨a1, a2, a3, a4, a5, a6, a7, a8⟩ := h2
  exact ⟨a1, a2, a3, a4, a5, a6, a7, by omega⟩
set_option maxRecDepth 100000 in
theorem c_isStopped {b : Bool} {M : iM} (h : M 1 4 = 0 ∨ M 1 4 = 1) : irun none zp_34 0 (i_ent [iP 1] 1) [] (SH b) M 0 0 (some (M 1 4), SH b, M) := by
  refine i_aload_n rfl rfl ?_
  refine i_getf rfl rfl rfl rfl (by decide) ?_
  -- at 4
  exact i_zreturn rfl rfl (by first | omega | assumption)
set_option maxRecDepth 100000 in
theorem o_down {w : Int} {b : Bool} {M : iM} (h : Inv w b M) : Op w b M zp_13 zp_161 [] := by
  have hi := h
  obtain ⟨-, ⟨a1, a2, -⟩, -⟩ := hi
  refine ⟨M 1 4, b, M, M, ?_, ?_, Inv_w h (by omega)⟩
  · refine i_aload_n rfl rfl ?_
    refine i_getr rfl rfl rfl rfl (by decide) rfl ?_
    -- at 4
    refine i_call (T := (34, zp_34)) rfl rfl (c_isStopped a1) rfl rfl rfl rfl rfl rfl rfl ?_
    try dsimp only
    exact i_zreturn rfl rfl (by first | omega | assumption)
  · rw [← a2] at a1 ⊢
    refine i_aload_n rfl rfl ?_
    refine i_getf rfl rfl rfl rfl (by decide) ?_
    -- at 4
    exact i_zreturn rfl rfl (by first | omega | assumption)
set_option maxRecDepth 100000 in
theorem o_number {w : Int} {b : Bool} {M : iM} (h : Inv w b M) : Op w b M zp_16 zp_164 [] := by
  have hi := h
  obtain ⟨-, ⟨a1, a2, -⟩, ⟨-, -, -, -, -, ⟨e1, -⟩, -⟩, -⟩ := hi
  refine ⟨if M 1 4 = 1 then -9 else M 40 8, b, M, M, ?_, ?_, Inv_w h (by omega)⟩
  · refine i_aload_n rfl rfl ?_
    refine i_getr rfl rfl rfl rfl (by decide) rfl ?_
    -- at 4
    refine i_call (T := (34, zp_34)) rfl rfl (c_isStopped a1) rfl rfl rfl rfl rfl rfl rfl ?_
    try dsimp only
    rcases a1 with a1 | a1
    · rw [a1, if_neg (by decide), e1]
      cases b
      · refine i_if_eq_t rfl (by first | omega | assumption) ?_
        refine i_aload_n rfl rfl ?_
        refine i_getr rfl rfl rfl rfl (by decide) rfl ?_
        refine i_getf rfl rfl rfl rfl (by decide) ?_
        -- at 22
        exact i_ireturn rfl rfl
      · refine i_if_eq_t rfl (by first | omega | assumption) ?_
        refine i_aload_n rfl rfl ?_
        refine i_getr rfl rfl rfl rfl (by decide) rfl ?_
        refine i_getf rfl rfl rfl rfl (by decide) ?_
        -- at 22
        exact i_ireturn rfl rfl
    · rw [a1, if_pos rfl]
      refine i_if_eq_f rfl (by first | omega | assumption) ?_
      refine i_bipush (n := -9) rfl (by unfold iR; omega) (by decide) ?_
      refine i_goto rfl ?_
      -- at 22
      exact i_ireturn rfl rfl
  · rcases a1 with a1 | a1
    · rw [a1, if_neg (by decide)]
      refine i_aload_n rfl rfl ?_
      refine i_getf rfl rfl rfl rfl (by decide) ?_
      refine i_if_eq_t rfl (by first | omega | assumption) ?_
      refine i_aload_n rfl rfl ?_
      refine i_getf rfl rfl rfl rfl (by decide) ?_
      -- at 16
      exact i_ireturn rfl rfl
    · rw [a1, if_pos rfl]
      refine i_aload_n rfl rfl ?_
      refine i_getf rfl rfl rfl rfl (by decide) ?_
      refine i_if_eq_f rfl (by first | omega | assumption) ?_
      refine i_bipush (n := -9) rfl (by unfold iR; omega) (by decide) ?_
      refine i_goto rfl ?_
      -- at 16
      exact i_ireturn rfl rfl
set_option maxRecDepth 100000 in
theorem o_files {w : Int} {b : Bool} {M : iM} (h : Inv w b M) : Op w b M zp_8 zp_156 [] := by
  have hi := h
  obtain ⟨-, ⟨a1, a2, -⟩, ⟨-, e1, -⟩, -⟩ := hi
  refine ⟨if M 1 4 = 1 then -9 else M 42 0, b, M, M, ?_, ?_, Inv_w h (by omega)⟩
  · refine i_aload_n rfl rfl ?_
    refine i_getr rfl rfl rfl rfl (by decide) rfl ?_
    -- at 4
    refine i_call (T := (34, zp_34)) rfl rfl (c_isStopped a1) rfl rfl rfl rfl rfl rfl rfl ?_
    try dsimp only
    rcases a1 with a1 | a1
    · rw [a1, if_neg (by decide), e1]
      cases b
      · refine i_if_eq_t rfl (by first | omega | assumption) ?_
        refine i_aload_n rfl rfl ?_
        refine i_getr rfl rfl rfl rfl (by decide) rfl ?_
        refine i_getf rfl rfl rfl rfl (by decide) ?_
        -- at 22
        exact i_ireturn rfl rfl
      · refine i_if_eq_t rfl (by first | omega | assumption) ?_
        refine i_aload_n rfl rfl ?_
        refine i_getr rfl rfl rfl rfl (by decide) rfl ?_
        refine i_getf rfl rfl rfl rfl (by decide) ?_
        -- at 22
        exact i_ireturn rfl rfl
    · rw [a1, if_pos rfl]
      refine i_if_eq_f rfl (by first | omega | assumption) ?_
      refine i_bipush (n := -9) rfl (by unfold iR; omega) (by decide) ?_
      refine i_goto rfl ?_
      -- at 22
      exact i_ireturn rfl rfl
  · rcases a1 with a1 | a1
    · rw [a1, if_neg (by decide)]
      refine i_aload_n rfl rfl ?_
      refine i_getf rfl rfl rfl rfl (by decide) ?_
      refine i_if_eq_t rfl (by first | omega | assumption) ?_
      refine i_aload_n rfl rfl ?_
      refine i_getr rfl rfl rfl rfl (by decide) rfl ?_
      refine i_iconst (n := 0) rfl (by unfold iR; omega) ?_
      refine i_iald rfl rfl (by first | omega | assumption) (by first | omega | assumption) (by decide) ?_
      -- at 18
      exact i_ireturn rfl rfl
    · rw [a1, if_pos rfl]
      refine i_aload_n rfl rfl ?_
      refine i_getf rfl rfl rfl rfl (by decide) ?_
      refine i_if_eq_f rfl (by first | omega | assumption) ?_
      refine i_bipush (n := -9) rfl (by unfold iR; omega) (by decide) ?_
      refine i_goto rfl ?_
      -- at 18
      exact i_ireturn rfl rfl
set_option maxRecDepth 100000 in
theorem o_extracted {w : Int} {b : Bool} {M : iM} {i : Int} (h : Inv w b M) : Op w b M zp_7 zp_155 [iI i] := by
  have hi := h
  obtain ⟨-, ⟨a1, a2, -⟩, -, -, -, -, -, ⟨⟨e1, e2, e3⟩, e4⟩⟩ := hi
  refine ⟨if M 1 4 = 1 then -9 else if 0 ≤ i ∧ i < M 0 7 then M 35 i.toNat else -1, b, M, M, ?_, ?_, Inv_w h (by omega)⟩
  · refine i_aload_n rfl rfl ?_
    refine i_getr rfl rfl rfl rfl (by decide) rfl ?_
    -- at 4
    refine i_call (T := (34, zp_34)) rfl rfl (c_isStopped a1) rfl rfl rfl rfl rfl rfl rfl ?_
    try dsimp only
    rcases a1 with a1 | a1
    · rw [a1, if_neg (by decide)]
      by_cases c1 : i < 0
      · rw [if_neg (by omega)]
        refine i_if_eq_t rfl (by first | omega | assumption) ?_
        refine i_iload_n rfl rfl ?_
        refine i_if_lt_t rfl (by first | omega | assumption) ?_
        refine i_iconst (n := -1) rfl (by unfold iR; omega) ?_
        -- at 35
        exact i_ireturn rfl rfl
      · by_cases c2 : i < M 0 7
        · rw [if_pos ⟨by omega, c2⟩]
          refine i_if_eq_t rfl (by first | omega | assumption) ?_
          refine i_iload_n rfl rfl ?_
          refine i_if_lt_f rfl (by first | omega | assumption) ?_
          refine i_iload_n rfl rfl ?_
          refine i_aload_n rfl rfl ?_
          refine i_getf rfl rfl rfl rfl (by decide) ?_
          refine i_icmp_ge_f rfl (by first | omega | assumption) ?_
          refine i_aload_n rfl rfl ?_
          refine i_getr rfl rfl rfl rfl (by decide) rfl ?_
          refine i_iload_n rfl rfl ?_
          refine i_iald rfl rfl (by first | omega | assumption) (by first | omega | assumption) (by decide) ?_
          refine i_goto rfl ?_
          -- at 35
          exact i_ireturn rfl rfl
        · rw [if_neg (by omega)]
          refine i_if_eq_t rfl (by first | omega | assumption) ?_
          refine i_iload_n rfl rfl ?_
          refine i_if_lt_f rfl (by first | omega | assumption) ?_
          refine i_iload_n rfl rfl ?_
          refine i_aload_n rfl rfl ?_
          refine i_getf rfl rfl rfl rfl (by decide) ?_
          refine i_icmp_ge_t rfl (by first | omega | assumption) ?_
          refine i_iconst (n := -1) rfl (by unfold iR; omega) ?_
          -- at 35
          exact i_ireturn rfl rfl
    · rw [a1, if_pos rfl]
      refine i_if_eq_f rfl (by first | omega | assumption) ?_
      refine i_bipush (n := -9) rfl (by unfold iR; omega) (by decide) ?_
      -- at 12
      exact i_ireturn rfl rfl
  · rcases a1 with a1 | a1
    · rw [a1, if_neg (by decide)]
      by_cases c1 : i < 0
      · rw [if_neg (by omega)]
        refine i_aload_n rfl rfl ?_
        refine i_getf rfl rfl rfl rfl (by decide) ?_
        refine i_if_eq_t rfl (by first | omega | assumption) ?_
        refine i_iload_n rfl rfl ?_
        refine i_if_lt_t rfl (by first | omega | assumption) ?_
        refine i_iconst (n := -1) rfl (by unfold iR; omega) ?_
        -- at 32
        exact i_ireturn rfl rfl
      · by_cases c2 : i < M 0 7
        · rw [if_pos ⟨by omega, c2⟩, ← e4 i.toNat (by omega)]
          refine i_aload_n rfl rfl ?_
          refine i_getf rfl rfl rfl rfl (by decide) ?_
          refine i_if_eq_t rfl (by first | omega | assumption) ?_
          refine i_iload_n rfl rfl ?_
          refine i_if_lt_f rfl (by first | omega | assumption) ?_
          refine i_iload_n rfl rfl ?_
          refine i_aload_n rfl rfl ?_
          refine i_getf rfl rfl rfl rfl (by decide) ?_
          refine i_icmp_ge_f rfl (by first | omega | assumption) ?_
          refine i_aload_n rfl rfl ?_
          refine i_getr rfl rfl rfl rfl (by decide) rfl ?_
          refine i_iload_n rfl rfl ?_
          refine i_iald rfl rfl (by first | omega | assumption) (by first | omega | assumption) (by decide) ?_
          refine i_goto rfl ?_
          -- at 32
          exact i_ireturn rfl rfl
        · rw [if_neg (by omega)]
          refine i_aload_n rfl rfl ?_
          refine i_getf rfl rfl rfl rfl (by decide) ?_
          refine i_if_eq_t rfl (by first | omega | assumption) ?_
          refine i_iload_n rfl rfl ?_
          refine i_if_lt_f rfl (by first | omega | assumption) ?_
          refine i_iload_n rfl rfl ?_
          refine i_aload_n rfl rfl ?_
          refine i_getf rfl rfl rfl rfl (by decide) ?_
          refine i_icmp_ge_t rfl (by first | omega | assumption) ?_
          refine i_iconst (n := -1) rfl (by unfold iR; omega) ?_
          -- at 32
          exact i_ireturn rfl rfl
    · rw [a1, if_pos rfl]
      refine i_aload_n rfl rfl ?_
      refine i_getf rfl rfl rfl rfl (by decide) ?_
      refine i_if_eq_f rfl (by first | omega | assumption) ?_
      refine i_bipush (n := -9) rfl (by unfold iR; omega) (by decide) ?_
      -- at 9
      exact i_ireturn rfl rfl
set_option maxRecDepth 100000 in
theorem c_isPlace {sh : List zS} {M : iM} {s p : Int} : irun none zp_30 0 (i_ent [iI s, iI p] 2) [] sh M 0 0 (some (bi (0 ≤ s ∧ s < 60 ∧ 0 ≤ p ∧ p < 12)), sh, M) := by
  by_cases c1 : s < 0
  · rw [bi_f (by omega)]
    refine i_iload_n rfl rfl ?_
    refine i_if_lt_t rfl (by first | omega | assumption) ?_
    refine i_iconst (n := 0) rfl (by unfold iR; omega) ?_
    -- at 25
    exact i_zreturn rfl rfl (by first | omega | assumption)
  · by_cases c2 : 60 ≤ s
    · rw [bi_f (by omega)]
      refine i_iload_n rfl rfl ?_
      refine i_if_lt_f rfl (by first | omega | assumption) ?_
      refine i_iload_n rfl rfl ?_
      refine i_bipush (n := 60) rfl (by unfold iR; omega) (by decide) ?_
      refine i_icmp_ge_t rfl (by first | omega | assumption) ?_
      refine i_iconst (n := 0) rfl (by unfold iR; omega) ?_
      -- at 25
      exact i_zreturn rfl rfl (by first | omega | assumption)
    · by_cases c3 : p < 0
      · rw [bi_f (by omega)]
        refine i_iload_n rfl rfl ?_
        refine i_if_lt_f rfl (by first | omega | assumption) ?_
        refine i_iload_n rfl rfl ?_
        refine i_bipush (n := 60) rfl (by unfold iR; omega) (by decide) ?_
        refine i_icmp_ge_f rfl (by first | omega | assumption) ?_
        refine i_iload_n rfl rfl ?_
        refine i_if_lt_t rfl (by first | omega | assumption) ?_
        refine i_iconst (n := 0) rfl (by unfold iR; omega) ?_
        -- at 25
        exact i_zreturn rfl rfl (by first | omega | assumption)
      · by_cases c4 : 12 ≤ p
        · rw [bi_f (by omega)]
          refine i_iload_n rfl rfl ?_
          refine i_if_lt_f rfl (by first | omega | assumption) ?_
          refine i_iload_n rfl rfl ?_
          refine i_bipush (n := 60) rfl (by unfold iR; omega) (by decide) ?_
          refine i_icmp_ge_f rfl (by first | omega | assumption) ?_
          refine i_iload_n rfl rfl ?_
          refine i_if_lt_f rfl (by first | omega | assumption) ?_
          refine i_iload_n rfl rfl ?_
          refine i_bipush (n := 12) rfl (by unfold iR; omega) (by decide) ?_
          refine i_icmp_ge_t rfl (by first | omega | assumption) ?_
          refine i_iconst (n := 0) rfl (by unfold iR; omega) ?_
          -- at 25
          exact i_zreturn rfl rfl (by first | omega | assumption)
        · rw [bi_t (by omega)]
          refine i_iload_n rfl rfl ?_
          refine i_if_lt_f rfl (by first | omega | assumption) ?_
          refine i_iload_n rfl rfl ?_
          refine i_bipush (n := 60) rfl (by unfold iR; omega) (by decide) ?_
          refine i_icmp_ge_f rfl (by first | omega | assumption) ?_
          refine i_iload_n rfl rfl ?_
          refine i_if_lt_f rfl (by first | omega | assumption) ?_
          refine i_iload_n rfl rfl ?_
          refine i_bipush (n := 12) rfl (by unfold iR; omega) (by decide) ?_
          refine i_icmp_ge_f rfl (by first | omega | assumption) ?_
          refine i_iconst (n := 1) rfl (by unfold iR; omega) ?_
          refine i_goto rfl ?_
          -- at 25
          exact i_zreturn rfl rfl (by first | omega | assumption)
set_option maxRecDepth 100000 in
theorem o_at {w : Int} {b : Bool} {M : iM} {s p : Int} (h : Inv w b M) : Op w b M zp_15 zp_163 [iI s, iI p] := by
  have hi := h
  obtain ⟨⟨f1, f2, -⟩, -⟩ := hi
  by_cases hp : 0 ≤ s ∧ s < 60 ∧ 0 ≤ p ∧ p < 12
  · obtain ⟨c1, c2, c3, c4⟩ := hp
    obtain ⟨s, rfl⟩ := Int.eq_ofNat_of_zero_le c1
    obtain ⟨p, rfl⟩ := Int.eq_ofNat_of_zero_le c3
    refine ⟨M 2 (s * 12 + p), b, M, M, ?_, ?_, Inv_w h (by omega)⟩
    · refine i_iload_n rfl rfl ?_
      refine i_iload_n rfl rfl ?_
      -- at 2
      refine i_call (T := (30, zp_30)) rfl rfl (c_isPlace) rfl rfl rfl rfl rfl rfl rfl ?_
      try dsimp only
      show irun none zp_15 5 _ [iI (bi _)] _ _ 0 0 _
      rw [bi_t ⟨c1, c2, c3, c4⟩]
      refine i_if_eq_f rfl (by first | omega | assumption) ?_
      refine i_aload_n rfl rfl ?_
      refine i_getr rfl rfl rfl rfl (by decide) rfl ?_
      refine i_iload_n rfl rfl ?_
      refine i_iload_n rfl rfl ?_
      -- at 14
      refine i_call (T := (32, zp_32)) rfl rfl (c_cell (s := s) (p := p) (by omega) (by omega)) rfl rfl rfl rfl rfl rfl rfl ?_
      try dsimp only
      refine i_goto rfl ?_
      -- at 21
      exact i_ireturn rfl rfl
    · rw [f2 _]
      refine i_iload_n rfl rfl ?_
      refine i_if_lt_f rfl (by first | omega | assumption) ?_
      refine i_iload_n rfl rfl ?_
      refine i_bipush (n := 60) rfl (by unfold iR; omega) (by decide) ?_
      refine i_icmp_ge_f rfl (by first | omega | assumption) ?_
      refine i_iload_n rfl rfl ?_
      refine i_if_lt_f rfl (by first | omega | assumption) ?_
      refine i_iload_n rfl rfl ?_
      refine i_bipush (n := 12) rfl (by unfold iR; omega) (by decide) ?_
      refine i_icmp_ge_f rfl (by first | omega | assumption) ?_
      refine i_aload_n rfl rfl ?_
      refine i_getr rfl rfl rfl rfl (by decide) rfl ?_
      refine i_bipush (n := 12) rfl (by unfold iR; omega) (by decide) ?_
      refine i_iload_n rfl rfl ?_
      refine i_imul rfl (by unfold iR; omega) ?_
      refine i_iload_n rfl rfl ?_
      refine i_iadd rfl (by unfold iR; omega) ?_
      refine i_iald rfl rfl (by first | omega | assumption) (by first | omega | assumption) (by decide) ?_
      refine i_goto rfl ?_
      -- at 35
      rw [show (12 * (s : Int) + (p : Int)).toNat = s * 12 + p by omega]
      exact i_ireturn rfl rfl
  · refine ⟨-1, b, M, M, ?_, ?_, Inv_w h (by omega)⟩
    · refine i_iload_n rfl rfl ?_
      refine i_iload_n rfl rfl ?_
      -- at 2
      refine i_call (T := (30, zp_30)) rfl rfl (c_isPlace) rfl rfl rfl rfl rfl rfl rfl ?_
      try dsimp only
      show irun none zp_15 5 _ [iI (bi _)] _ _ 0 0 _
      rw [bi_f hp]
      refine i_if_eq_t rfl (by first | omega | assumption) ?_
      refine i_iconst (n := -1) rfl (by unfold iR; omega) ?_
      -- at 21
      exact i_ireturn rfl rfl
    · by_cases c1 : s < 0
      · refine i_iload_n rfl rfl ?_
        refine i_if_lt_t rfl (by first | omega | assumption) ?_
        refine i_iconst (n := -1) rfl (by unfold iR; omega) ?_
        -- at 35
        exact i_ireturn rfl rfl
      · by_cases c2 : 60 ≤ s
        · refine i_iload_n rfl rfl ?_
          refine i_if_lt_f rfl (by first | omega | assumption) ?_
          refine i_iload_n rfl rfl ?_
          refine i_bipush (n := 60) rfl (by unfold iR; omega) (by decide) ?_
          refine i_icmp_ge_t rfl (by first | omega | assumption) ?_
          refine i_iconst (n := -1) rfl (by unfold iR; omega) ?_
          -- at 35
          exact i_ireturn rfl rfl
        · by_cases c3 : p < 0
          · refine i_iload_n rfl rfl ?_
            refine i_if_lt_f rfl (by first | omega | assumption) ?_
            refine i_iload_n rfl rfl ?_
            refine i_bipush (n := 60) rfl (by unfold iR; omega) (by decide) ?_
            refine i_icmp_ge_f rfl (by first | omega | assumption) ?_
            refine i_iload_n rfl rfl ?_
            refine i_if_lt_t rfl (by first | omega | assumption) ?_
            refine i_iconst (n := -1) rfl (by unfold iR; omega) ?_
            -- at 35
            exact i_ireturn rfl rfl
          · refine i_iload_n rfl rfl ?_
            refine i_if_lt_f rfl (by first | omega | assumption) ?_
            refine i_iload_n rfl rfl ?_
            refine i_bipush (n := 60) rfl (by unfold iR; omega) (by decide) ?_
            refine i_icmp_ge_f rfl (by first | omega | assumption) ?_
            refine i_iload_n rfl rfl ?_
            refine i_if_lt_f rfl (by first | omega | assumption) ?_
            refine i_iload_n rfl rfl ?_
            refine i_bipush (n := 12) rfl (by unfold iR; omega) (by decide) ?_
            refine i_icmp_ge_t rfl (by first | omega | assumption) ?_
            refine i_iconst (n := -1) rfl (by unfold iR; omega) ?_
            -- at 35
            exact i_ireturn rfl rfl
