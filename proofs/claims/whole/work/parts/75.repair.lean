def Rl (O Q : Nat → Int) : Prop := (O 4 = 0 ∨ O 4 = 1) ∧ Q 1 = O 4 ∧ (Q 2 = 0 ∨ Q 2 = 1) ∧ 0 ≤ Q 3 ∧ Q 3 ≤ 200 ∧ O 3 = (if Q 2 = 1 then Q 3 else -1)
theorem Rl_0 {O Q : Nat → Int} (h : Rl O Q) : O 3 = 0 ↔ (Q 2 = 1 ∧ Q 3 = 0) := by
  obtain ⟨h1, h2, h3, h4, h5, h6⟩ := h
  rcases h3 with h3 | h3
  · rw [if_neg (by omega)] at h6
    omega
  · rw [if_pos h3] at h6
    omega
theorem Rl_1 {O Q : Nat → Int} (h : Rl O Q) : Rl (O1 O) (Q1 Q) := by
  obtain ⟨h1, h2, h3, h4, h5, h6⟩ := h
  unfold Rl O1 Q1 lw
  simp
  rcases h3 with h3 | h3
  · rw [if_neg (by omega)] at h6
    simp [h3, h6]
    omega
  · rw [if_pos h3] at h6
    by_cases hz : Q 3 = 0
    · simp [h3, hz, h6]
    · simp [h3, hz, h6]
      omega
theorem Rl_q {O Q : Nat → Int} (h : Rl O Q) : Qq Q := by
  obtain ⟨h1, h2, h3, h4, h5, h6⟩ := h
  exact ⟨h3, h4, by omega⟩
theorem O1_4 {O : Nat → Int} (h : O 3 ≠ 0) : O1 O 4 = O 4 := by unfold O1; simp [h]
theorem O1_40 {O : Nat → Int} (h : O 3 = 0) : O1 O 4 = 1 := by unfold O1; simp [h]
def w1 (f O : Nat → Int) (s : Nat) (d : Nat → Int) : (Nat → Int) × (Nat → Int) := if O 3 = 0 then (f, O1 O) else (wS f s d, O1 O)
def fb (f : Nat → Int) (g : Nat) : Nat := if ¬ gd f (g * 4) then 0 else if ¬ gd f (g * 4 + 1) then 1 else if ¬ gd f (g * 4 + 2) then 2 else if ¬ gd f (g * 4 + 3) then 3 else 4
theorem fb_b (f : Nat → Int) (g : Nat) : fb f g < 5 := by
  unfold fb
  split
  · decide
  · split
    · decide
    · split
      · decide
      · split <;> decide
def eqN (f J : Nat → Int) (s : Nat) : Nat → Int
  | 0 => 1
  | p + 1 => if eqN f J s p = 1 ∧ f (s * 12 + p) = J p then 1 else 0
def mg (f O : Nat → Int) (g : Nat) : (Nat → Int) × (Nat → Int) := if 1 < nb f g then (f, O) else if nb f g = 1 then w1 f O (mb g (fb f g)) (jn f g (fb f g : Nat)) else if eqN f (jn f g 4) (48 + g) 11 = 1 then (f, O) else w1 f O (48 + g) (jn f g 4)
theorem eqN_01 (f J : Nat → Int) (s p : Nat) : eqN f J s p = 0 ∨ eqN f J s p = 1 := by
  cases p with
  | zero => exact Or.inr rfl
  | succ p =>
    show (if _ then _ else _) = _ ∨ (if _ then _ else _) = _
    split
    · exact Or.inr rfl
    · exact Or.inl rfl
theorem eqN_f {f J : Nat → Int} {s p n : Nat} (h : eqN f J s p ≠ 1) (hp : p ≤ n) : eqN f J s n = 0 := by
  have h0 : eqN f J s p = 0 := by have := eqN_01 f J s p; omega
  induction hp with
  | refl => exact h0
  | step _ ih =>
    show (if _ then _ else _) = _
    rw [if_neg (by omega)]
theorem eqN_c {f J K : Nat → Int} {s : Nat} : ∀ {n : Nat}, (∀ k, k < n → J k = K k) → eqN f J s n = eqN f K s n := by
  intro n
  induction n with
  | zero => intro _; rfl
  | succ n ih =>
    intro h
    show (if eqN f J s n = 1 ∧ f (s * 12 + n) = J n then (1 : Int) else 0) = if eqN f K s n = 1 ∧ f (s * 12 + n) = K n then 1 else 0
    rw [ih (fun k hk => h k (by omega)), h n (by omega)]
set_option maxRecDepth 100000 in
theorem c_holdsJoined {b : Bool} {M : iM} {s : Nat} (hs : s < 60) : irun none zp_51 0 (i_ent [iP 1, iI (s : Int)] 3) [] (SH b) M 0 0 (some (eqN (M 2) (M 4) s 11), SH b, M) := by
  have loop : ∀ (c p : Nat), p + c = 11 → eqN (M 2) (M 4) s p = 1 → irun none zp_51 2 [some (iP 1), some (iI (s : Int)), some (iI (p : Int))] [] (SH b) M 0 0 (some (eqN (M 2) (M 4) s 11), SH b, M) := by
    intro c
    induction c with
    | zero =>
      intro p hp he
      obtain rfl : p = 11 := by omega
      rw [he]
      refine i_iload_n rfl rfl ?_
      refine i_bipush (n := 11) rfl (by unfold iR; omega) (by decide) ?_
      refine i_icmp_ge_t rfl (by first | omega | assumption) ?_
      refine i_iconst (n := 1) rfl (by unfold iR; omega) ?_
      -- at 32
      exact i_zreturn rfl rfl (by first | omega | assumption)
    | succ c ih =>
      intro p hp he
      have e1 : ((p : Int)).toNat = p := by omega
      by_cases hc : M 2 (s * 12 + p) = M 4 p
      · have hn := ih (p + 1) (by omega) (by
          show (if _ then _ else _) = _
          rw [if_pos ⟨he, hc⟩])
        refine i_iload_n rfl rfl ?_
        refine i_bipush (n := 11) rfl (by unfold iR; omega) (by decide) ?_
        refine i_icmp_ge_f rfl (by first | omega | assumption) ?_
        refine i_aload_n rfl rfl ?_
        refine i_iload_n rfl rfl ?_
        refine i_iload_n rfl rfl ?_
        -- at 11
        refine i_call (T := (32, zp_32)) rfl rfl (c_cell (p := p) hs (by omega)) rfl rfl rfl rfl rfl rfl rfl ?_
        try dsimp only
        refine i_aload_n rfl rfl ?_
        refine i_getr rfl rfl rfl rfl (by decide) rfl ?_
        refine i_iload_n rfl rfl ?_
        refine i_iald rfl rfl (by first | omega | assumption) (by first | omega | assumption) (by decide) ?_
        -- at 20
        rw [e1]
        show irun none zp_51 20 _ [iI (M 4 p), iI (M 2 (s * 12 + p))] _ _ 0 0 _
        refine i_icmp_eq_t rfl (by first | omega | assumption) ?_
        refine i_iinc rfl rfl (by unfold iR; omega) (Nat.le_of_ble_eq_true rfl) rfl ?_
        refine i_goto rfl ?_
        -- at 2
        exact hn
      · have hz : eqN (M 2) (M 4) s 11 = 0 := eqN_f (p := p + 1) (by
          show (if _ then _ else _) ≠ _
          rw [if_neg (fun q => hc q.2)]
          decide) (by omega)
        rw [hz]
        refine i_iload_n rfl rfl ?_
        refine i_bipush (n := 11) rfl (by unfold iR; omega) (by decide) ?_
        refine i_icmp_ge_f rfl (by first | omega | assumption) ?_
        refine i_aload_n rfl rfl ?_
        refine i_iload_n rfl rfl ?_
        refine i_iload_n rfl rfl ?_
        -- at 11
        refine i_call (T := (32, zp_32)) rfl rfl (c_cell (p := p) hs (by omega)) rfl rfl rfl rfl rfl rfl rfl ?_
        try dsimp only
        refine i_aload_n rfl rfl ?_
        refine i_getr rfl rfl rfl rfl (by decide) rfl ?_
        refine i_iload_n rfl rfl ?_
        refine i_iald rfl rfl (by first | omega | assumption) (by first | omega | assumption) (by decide) ?_
        -- at 20
        rw [e1]
        show irun none zp_51 20 _ [iI (M 4 p), iI (M 2 (s * 12 + p))] _ _ 0 0 _
        refine i_icmp_eq_f rfl (by first | omega | assumption) ?_
        refine i_iconst (n := 0) rfl (by unfold iR; omega) ?_
        -- at 24
        exact i_zreturn rfl rfl (by first | omega | assumption)
  refine i_iconst (n := 0) rfl (by unfold iR; omega) ?_
  refine i_istore_n rfl (Nat.le_of_ble_eq_true rfl) rfl ?_
  -- at 2
  exact loop 11 0 rfl rfl
set_option maxRecDepth 100000 in
theorem c_firstBad {b : Bool} {M : iM} {g : Nat} (hg : g < 12) (hf : by8 (M 2) 720) (hm : ∀ x : Nat, x < 256 → M 3 x = hN 8 (x : Int)) : irun none zp_50 0 (i_ent [iP 1, iI (g : Int)] 3) [] (SH b) M 0 0 (some ((fb (M 2) g : Nat) : Int), SH b, M) := by
  have step : ∀ (m : Nat) (q : Option Int × List zS × iM), m < 4 → (gd (M 2) (g * 4 + m) → irun none zp_50 2 [some (iP 1), some (iI (g : Int)), some (iI ((m + 1 : Nat) : Int))] [] (SH b) M 0 0 q) → (¬ gd (M 2) (g * 4 + m) → q = (some (m : Int), SH b, M)) → irun none zp_50 2 [some (iP 1), some (iI (g : Int)), some (iI (m : Int))] [] (SH b) M 0 0 q := by
    intro m q hm4 k1 k2
    have e : mb g m = g * 4 + m := by unfold mb; rw [if_pos hm4]
    by_cases h : gd (M 2) (g * 4 + m)
    · have kk := k1 h
      refine i_iload_n rfl rfl ?_
      refine i_iconst (n := 4) rfl (by unfold iR; omega) ?_
      refine i_icmp_ge_f rfl (by first | omega | assumption) ?_
      refine i_aload_n rfl rfl ?_
      refine i_iload_n rfl rfl ?_
      refine i_iload_n rfl rfl ?_
      -- at 10
      refine i_call (T := (41, zp_41)) rfl rfl (c_sectorOf hg (show m < 5 by omega)) rfl rfl rfl rfl rfl rfl rfl ?_
      try dsimp only
      refine i_call (T := (40, zp_40)) rfl rfl (c_isGood (mb_b hg (show m < 5 by omega)) hf hm) rfl rfl rfl rfl rfl rfl rfl ?_
      try dsimp only
      show irun none zp_50 16 _ [iI (bi _)] _ _ 0 0 _
      rw [bi_t (by rw [e]; exact h)]
      refine i_if_eq_f rfl (by first | omega | assumption) ?_
      refine i_iinc rfl rfl (by unfold iR; omega) (Nat.le_of_ble_eq_true rfl) rfl ?_
      refine i_goto rfl ?_
      -- at 2
      exact kk
    · rw [k2 h]
      refine i_iload_n rfl rfl ?_
      refine i_iconst (n := 4) rfl (by unfold iR; omega) ?_
      refine i_icmp_ge_f rfl (by first | omega | assumption) ?_
      refine i_aload_n rfl rfl ?_
      refine i_iload_n rfl rfl ?_
      refine i_iload_n rfl rfl ?_
      -- at 10
      refine i_call (T := (41, zp_41)) rfl rfl (c_sectorOf hg (show m < 5 by omega)) rfl rfl rfl rfl rfl rfl rfl ?_
      try dsimp only
      refine i_call (T := (40, zp_40)) rfl rfl (c_isGood (mb_b hg (show m < 5 by omega)) hf hm) rfl rfl rfl rfl rfl rfl rfl ?_
      try dsimp only
      show irun none zp_50 16 _ [iI (bi _)] _ _ 0 0 _
      rw [bi_f (by rw [e]; exact h)]
      refine i_if_eq_t rfl (by first | omega | assumption) ?_
      refine i_iload_n rfl rfl ?_
      -- at 26
      exact i_ireturn rfl rfl
  refine i_iconst (n := 0) rfl (by unfold iR; omega) ?_
  refine i_istore_n rfl (Nat.le_of_ble_eq_true rfl) rfl ?_
  -- at 2
  refine step 0 _ (by decide) (fun h0 => step 1 _ (by decide) (fun h1 => step 2 _ (by decide) (fun h2 => step 3 _ (by decide) (fun h3 => ?_) (fun h3 => ?_)) (fun h2 => ?_)) (fun h1 => ?_)) (fun h0 => ?_)
  · have e : fb (M 2) g = 4 := by unfold fb; rw [if_neg (by simpa using h0), if_neg (by simpa using h1), if_neg (by simpa using h2), if_neg (by simpa using h3)]
    rw [e]
    refine i_iload_n rfl rfl ?_
    refine i_iconst (n := 4) rfl (by unfold iR; omega) ?_
    refine i_icmp_ge_t rfl (by first | omega | assumption) ?_
    refine i_iload_n rfl rfl ?_
    -- at 26
    exact i_ireturn rfl rfl
  · have e : fb (M 2) g = 3 := by unfold fb; rw [if_neg (by simpa using h0), if_neg (by simpa using h1), if_neg (by simpa using h2), if_pos h3]
    rw [e]
  · have e : fb (M 2) g = 2 := by unfold fb; rw [if_neg (by simpa using h0), if_neg (by simpa using h1), if_pos h2]
    rw [e]
  · have e : fb (M 2) g = 1 := by unfold fb; rw [if_neg (by simpa using h0), if_pos h1]
    rw [e]
  · have h0 : ¬ gd (M 2) (g * 4) := h0
    have e : fb (M 2) g = 0 := by unfold fb; rw [if_pos h0]
    rw [e]
set_option maxRecDepth 100000 in
theorem c_mend {b : Bool} {M : iM} {g : Nat} {N : Int} (hg : g < 12) (hO : Oo (M 1) N) (hNN : N < 900000000) (hf : by8 (M 2) 720) (hm : ∀ x : Nat, x < 256 → M 3 x = hN 8 (x : Int)) :
    ∃ J, irun none zp_49 0 (i_ent [iP 1, iI (g : Int)] 5) [] (SH b) M 0 0 (some (if 1 < nb (M 2) g then nb (M 2) g else 0), SH b, va_up (va_up (va_up M 1 (mg (M 2) (M 1) g).2) 2 (mg (M 2) (M 1) g).1) 4 J) := by
  obtain ⟨⟨o1, o2⟩, o3, o4⟩ := hO
  have hcb := c_countBad (b := b) (M := M) hg hf hm
  have hnb := nbN_b (M 2) g 5
  have hnb : 0 ≤ nb (M 2) g ∧ nb (M 2) g ≤ 5 := hnb
  by_cases h1 : 1 < nb (M 2) g
  · refine ⟨M 4, ?_⟩
    have e : mg (M 2) (M 1) g = (M 2, M 1) := by unfold mg; rw [if_pos h1]
    rw [e, if_pos h1]
    try dsimp only
    rw [up_id M 1 rfl, up_id M 2 rfl, up_id M 4 rfl]
    refine i_aload_n rfl rfl ?_
    refine i_iload_n rfl rfl ?_
    -- at 2
    refine i_call (T := (44, zp_44)) rfl rfl (hcb) rfl rfl rfl rfl rfl rfl rfl ?_
    try dsimp only
    show irun none zp_49 5 _ [iI (nb (M 2) g)] _ _ 0 0 _
    refine i_istore_n rfl (Nat.le_of_ble_eq_true rfl) rfl ?_
    refine i_iload_n rfl rfl ?_
    refine i_iconst (n := 1) rfl (by unfold iR; omega) ?_
    refine i_icmp_le_f rfl (by first | omega | assumption) ?_
    refine i_iload_n rfl rfl ?_
    -- at 12
    exact i_ireturn rfl rfl
  · rw [if_neg h1]
    have tail : ∀ (mm : Nat) (d : Nat → Int) (q : (Nat → Int) × (Nat → Int)) (bad : Int), mm < 5 → q = w1 (M 2) (M 1) (mb g mm) (jn (M 2) g (mm : Int)) → irun none zp_49 55 [some (iP 1), some (iI (g : Int)), some (iI bad), some (iI (mm : Int)), some (iI ((mb g mm : Nat) : Int))] [] (SH b) (va_up M 4 (fun k => if k < 11 then jn (M 2) g (mm : Int) k else M 4 k)) 0 0 (some 0, SH b, va_up (va_up (va_up M 1 q.2) 2 q.1) 4 (fun k => if k < 11 then jn (M 2) g (mm : Int) k else M 4 k)) := by
      intro mm d q bad hmm hq
      have hcw := c_countWriting (b := b) (M := va_up M 4 (fun k => if k < 11 then jn (M 2) g (mm : Int) k else M 4 k)) ⟨o1, o2⟩ ⟨o3, by show M 1 5 < _; omega⟩
      have hcw : irun none zp_37 0 (i_ent [iP 1] 1) [] (SH b) (va_up M 4 (fun k => if k < 11 then jn (M 2) g (mm : Int) k else M 4 k)) 0 0 (some (wk (M 1 3)), SH b, va_up (va_up M 4 (fun k => if k < 11 then jn (M 2) g (mm : Int) k else M 4 k)) 1 (O1 (M 1))) := hcw
      rw [up_sw (c := 4) (d := 1) (by decide)] at hcw
      by_cases h0 : M 1 3 = 0
      · have e : q = (M 2, O1 (M 1)) := by rw [hq]; unfold w1; rw [if_pos h0]
        rw [e]
        try dsimp only
        rw [up_id (va_up M 1 (O1 (M 1))) 2 (f := M 2) rfl]
        refine i_aload_n rfl rfl ?_
        -- at 56
        refine i_call (T := (37, zp_37)) rfl rfl (hcw) rfl rfl rfl rfl rfl rfl rfl ?_
        try dsimp only
        show irun none zp_49 59 _ [iI (wk (M 1 3))] _ _ 0 0 _
        rw [show wk (M 1 3) = 0 by unfold wk; rw [if_pos h0]]
        refine i_if_eq_t rfl (by first | omega | assumption) ?_
        refine i_iconst (n := 0) rfl (by unfold iR; omega) ?_
        -- at 73
        exact i_ireturn rfl rfl
      · have e : q = (wS (M 2) (mb g mm) (jn (M 2) g (mm : Int)), O1 (M 1)) := by rw [hq]; unfold w1; rw [if_neg h0]
        rw [e]
        try dsimp only
        have hfl := c_fillI (b := b) (M := va_up (va_up M 1 (O1 (M 1))) 4 (fun k => if k < 11 then jn (M 2) g (mm : Int) k else M 4 k)) (s := mb g mm) (mb_b hg hmm) hf (by
          intro j hj2
          show 0 ≤ (if j < 11 then _ else _) ∧ (if j < 11 then _ else _) < 256
          rw [if_pos hj2]
          exact jn_b hf hg (by omega)) hm
        have hfl : irun none zp_43 0 (i_ent [iP 1, iI ((mb g mm : Nat) : Int), iP 4] 3) [] (SH b) (va_up (va_up M 1 (O1 (M 1))) 4 (fun k => if k < 11 then jn (M 2) g (mm : Int) k else M 4 k)) 0 0 (none, SH b, va_up (va_up (va_up M 1 (O1 (M 1))) 4 (fun k => if k < 11 then jn (M 2) g (mm : Int) k else M 4 k)) 2 (wS (M 2) (mb g mm) (fun k => if k < 11 then jn (M 2) g (mm : Int) k else M 4 k))) := hfl
        rw [up_sw (c := 4) (d := 2) (by decide), wS_c (d := fun k => if k < 11 then jn (M 2) g (mm : Int) k else M 4 k) (e := jn (M 2) g (mm : Int)) (fun k hk => by first | rw [if_pos hk] | (dsimp only; rw [if_pos hk]))] at hfl
        refine i_aload_n rfl rfl ?_
        -- at 56
        refine i_call (T := (37, zp_37)) rfl rfl (hcw) rfl rfl rfl rfl rfl rfl rfl ?_
        try dsimp only
        show irun none zp_49 59 _ [iI (wk (M 1 3))] _ _ 0 0 _
        rw [show wk (M 1 3) = 1 by unfold wk; rw [if_neg h0]]
        refine i_if_eq_f rfl (by first | omega | assumption) ?_
        refine i_aload_n rfl rfl ?_
        refine i_iload rfl rfl ?_
        refine i_aload_n rfl rfl ?_
        refine i_getr rfl rfl rfl rfl (by decide) rfl ?_
        -- at 69
        refine i_call (T := (43, zp_43)) rfl rfl (hfl) rfl rfl rfl rfl rfl rfl rfl ?_
        try dsimp only
        refine i_iconst (n := 0) rfl (by unfold iR; omega) ?_
        -- at 73
        exact i_ireturn rfl rfl
    by_cases h2 : nb (M 2) g = 1
    · refine ⟨fun k => if k < 11 then jn (M 2) g ((fb (M 2) g : Nat) : Int) k else M 4 k, ?_⟩
      have ht := tail (fb (M 2) g) (fun _ => 0) (mg (M 2) (M 1) g) (nb (M 2) g) (fb_b _ _) (by unfold mg; rw [if_neg h1, if_pos h2])
      refine i_aload_n rfl rfl ?_
      refine i_iload_n rfl rfl ?_
      -- at 2
      refine i_call (T := (44, zp_44)) rfl rfl (hcb) rfl rfl rfl rfl rfl rfl rfl ?_
      try dsimp only
      show irun none zp_49 5 _ [iI (nb (M 2) g)] _ _ 0 0 _
      refine i_istore_n rfl (Nat.le_of_ble_eq_true rfl) rfl ?_
      refine i_iload_n rfl rfl ?_
      refine i_iconst (n := 1) rfl (by unfold iR; omega) ?_
      refine i_icmp_le_t rfl (by first | omega | assumption) ?_
      refine i_iload_n rfl rfl ?_
      refine i_iconst (n := 1) rfl (by unfold iR; omega) ?_
      refine i_icmp_ne_f rfl (by first | omega | assumption) ?_
      refine i_aload_n rfl rfl ?_
      refine i_iload_n rfl rfl ?_
      -- at 20
      refine i_call (T := (50, zp_50)) rfl rfl (c_firstBad hg hf hm) rfl rfl rfl rfl rfl rfl rfl ?_
      try dsimp only
      refine i_goto rfl ?_
      refine i_istore_n rfl (Nat.le_of_ble_eq_true rfl) rfl ?_
      refine i_iload_n rfl rfl ?_
      refine i_iload_n rfl rfl ?_
      -- at 30
      refine i_call (T := (41, zp_41)) rfl rfl (c_sectorOf hg (fb_b (M 2) g)) rfl rfl rfl rfl rfl rfl rfl ?_
      try dsimp only
      refine i_istore rfl (Nat.le_of_ble_eq_true rfl) rfl ?_
      refine i_aload_n rfl rfl ?_
      refine i_iload_n rfl rfl ?_
      refine i_iload_n rfl rfl ?_
      -- at 38
      refine i_call (T := (42, zp_42)) rfl rfl (c_joinOthers (lo := ((fb (M 2) g : Nat) : Int)) hg (by have := fb_b (M 2) g; unfold iR; omega) hf) rfl rfl rfl rfl rfl rfl rfl ?_
      try dsimp only
      refine i_iload_n rfl rfl ?_
      refine i_iconst (n := 1) rfl (by unfold iR; omega) ?_
      refine i_icmp_eq_t rfl (by first | omega | assumption) ?_
      -- at 55
      exact ht
    · have h3 : nb (M 2) g = 0 := by omega
      refine ⟨fun k => if k < 11 then jn (M 2) g 4 k else M 4 k, ?_⟩
      have hh := c_holdsJoined (b := b) (M := va_up M 4 (fun k => if k < 11 then jn (M 2) g 4 k else M 4 k)) (s := 48 + g) (by omega)
      have hh : irun none zp_51 0 (i_ent [iP 1, iI ((48 + g : Nat) : Int)] 3) [] (SH b) (va_up M 4 (fun k => if k < 11 then jn (M 2) g 4 k else M 4 k)) 0 0 (some (eqN (M 2) (fun k => if k < 11 then jn (M 2) g 4 k else M 4 k) (48 + g) 11), SH b, va_up M 4 (fun k => if k < 11 then jn (M 2) g 4 k else M 4 k)) := hh
      rw [eqN_c (J := fun k => if k < 11 then jn (M 2) g 4 k else M 4 k) (K := jn (M 2) g 4) (fun k hk => by first | rw [if_pos hk] | (dsimp only; rw [if_pos hk]))] at hh
      rcases eqN_01 (M 2) (jn (M 2) g 4) (48 + g) 11 with he | he
      · have ht := tail 4 (fun _ => 0) (mg (M 2) (M 1) g) (nb (M 2) g) (by decide) (by unfold mg; rw [if_neg h1, if_neg h2, if_neg (by omega)]; rfl)
        refine i_aload_n rfl rfl ?_
        refine i_iload_n rfl rfl ?_
        -- at 2
        refine i_call (T := (44, zp_44)) rfl rfl (hcb) rfl rfl rfl rfl rfl rfl rfl ?_
        try dsimp only
        show irun none zp_49 5 _ [iI (nb (M 2) g)] _ _ 0 0 _
        refine i_istore_n rfl (Nat.le_of_ble_eq_true rfl) rfl ?_
        refine i_iload_n rfl rfl ?_
        refine i_iconst (n := 1) rfl (by unfold iR; omega) ?_
        refine i_icmp_le_t rfl (by first | omega | assumption) ?_
        refine i_iload_n rfl rfl ?_
        refine i_iconst (n := 1) rfl (by unfold iR; omega) ?_
        refine i_icmp_ne_t rfl (by first | omega | assumption) ?_
        refine i_iconst (n := 4) rfl (by unfold iR; omega) ?_
        refine i_istore_n rfl (Nat.le_of_ble_eq_true rfl) rfl ?_
        refine i_iload_n rfl rfl ?_
        refine i_iload_n rfl rfl ?_
        -- at 30
        refine i_call (T := (41, zp_41)) rfl rfl (c_sectorOf (m := 4) hg (by decide)) rfl rfl rfl rfl rfl rfl rfl ?_
        try dsimp only
        refine i_istore rfl (Nat.le_of_ble_eq_true rfl) rfl ?_
        refine i_aload_n rfl rfl ?_
        refine i_iload_n rfl rfl ?_
        refine i_iload_n rfl rfl ?_
        -- at 38
        refine i_call (T := (42, zp_42)) rfl rfl (c_joinOthers (lo := 4) hg (by unfold iR; omega) hf) rfl rfl rfl rfl rfl rfl rfl ?_
        try dsimp only
        refine i_iload_n rfl rfl ?_
        refine i_iconst (n := 1) rfl (by unfold iR; omega) ?_
        refine i_icmp_eq_f rfl (by first | omega | assumption) ?_
        refine i_aload_n rfl rfl ?_
        refine i_iload rfl rfl ?_
        -- at 49
        refine i_call (T := (51, zp_51)) rfl rfl (hh) rfl rfl rfl rfl rfl rfl rfl ?_
        try dsimp only
        show irun none zp_49 52 _ [iI (eqN (M 2) (jn (M 2) g 4) (48 + g) 11)] _ _ 0 0 _
        refine i_if_ne_f rfl (by first | omega | assumption) ?_
        -- at 55
        exact ht
      · have e : mg (M 2) (M 1) g = (M 2, M 1) := by unfold mg; rw [if_neg h1, if_neg h2, if_pos he]
        rw [e]
        try dsimp only
        rw [up_id M 1 rfl, up_id M 2 rfl]
        refine i_aload_n rfl rfl ?_
        refine i_iload_n rfl rfl ?_
        -- at 2
        refine i_call (T := (44, zp_44)) rfl rfl (hcb) rfl rfl rfl rfl rfl rfl rfl ?_
        try dsimp only
        show irun none zp_49 5 _ [iI (nb (M 2) g)] _ _ 0 0 _
        refine i_istore_n rfl (Nat.le_of_ble_eq_true rfl) rfl ?_
        refine i_iload_n rfl rfl ?_
        refine i_iconst (n := 1) rfl (by unfold iR; omega) ?_
        refine i_icmp_le_t rfl (by first | omega | assumption) ?_
        refine i_iload_n rfl rfl ?_
        refine i_iconst (n := 1) rfl (by unfold iR; omega) ?_
        refine i_icmp_ne_t rfl (by first | omega | assumption) ?_
        refine i_iconst (n := 4) rfl (by unfold iR; omega) ?_
        refine i_istore_n rfl (Nat.le_of_ble_eq_true rfl) rfl ?_
        refine i_iload_n rfl rfl ?_
        refine i_iload_n rfl rfl ?_
        -- at 30
        refine i_call (T := (41, zp_41)) rfl rfl (c_sectorOf (m := 4) hg (by decide)) rfl rfl rfl rfl rfl rfl rfl ?_
        try dsimp only
        refine i_istore rfl (Nat.le_of_ble_eq_true rfl) rfl ?_
        refine i_aload_n rfl rfl ?_
        refine i_iload_n rfl rfl ?_
        refine i_iload_n rfl rfl ?_
        -- at 38
        refine i_call (T := (42, zp_42)) rfl rfl (c_joinOthers (lo := 4) hg (by unfold iR; omega) hf) rfl rfl rfl rfl rfl rfl rfl ?_
        try dsimp only
        refine i_iload_n rfl rfl ?_
        refine i_iconst (n := 1) rfl (by unfold iR; omega) ?_
        refine i_icmp_eq_f rfl (by first | omega | assumption) ?_
        refine i_aload_n rfl rfl ?_
        refine i_iload rfl rfl ?_
        -- at 49
        refine i_call (T := (51, zp_51)) rfl rfl (hh) rfl rfl rfl rfl rfl rfl rfl ?_
        try dsimp only
        show irun none zp_49 52 _ [iI (eqN (M 2) (jn (M 2) g 4) (48 + g) 11)] _ _ 0 0 _
        refine i_if_ne_t rfl (by first | omega | assumption) ?_
        refine i_iconst (n := 0) rfl (by unfold iR; omega) ?_
        -- at 73
        exact i_ireturn rfl rfl

def rp (f O : Nat → Int) : Nat → (Nat → Int) × (Nat → Int) × Int
  | 0 => (f, O, 0)
  | g + 1 => if (rp f O g).2.1 4 = 1 then rp f O g else ((mg (rp f O g).1 (rp f O g).2.1 g).1, (mg (rp f O g).1 (rp f O g).2.1 g).2, (rp f O g).2.2 + (if 1 < nb (rp f O g).1 g then nb (rp f O g).1 g else 0))
theorem w1_o {f O d : Nat → Int} {s : Nat} {N : Int} (hO : Oo O N) : Oo (w1 f O s d).2 (N + 1) := by
  unfold w1
  split <;> exact O1_o hO
theorem mg_o {f O : Nat → Int} {g : Nat} {N : Int} (hO : Oo O N) : Oo (mg f O g).2 (N + 1) := by
  have h0 : Oo O (N + 1) := ⟨hO.1, hO.2.1, by have := hO.2.2; omega⟩
  unfold mg
  split
  · exact h0
  · split
    · exact w1_o hO
    · split
      · exact h0
      · exact w1_o hO
theorem w1_b {f O d : Nat → Int} {s : Nat} (hf : by8 f 720) (hd : by8 d 11) : by8 (w1 f O s d).1 720 := by
  unfold w1
  split
  · exact hf
  · exact wS_b hf hd
theorem mg_b {f O : Nat → Int} {g : Nat} (hg : g < 12) (hf : by8 f 720) : by8 (mg f O g).1 720 := by
  unfold mg
  split
  · exact hf
  · split
    · exact w1_b hf (jn8 hf hg)
    · split
      · exact hf
      · exact w1_b hf (jn8 hf hg)
theorem w1_4 {f O d : Nat → Int} {s : Nat} (h : O 4 = 0) : (w1 f O s d).2 4 = 0 ∨ (w1 f O s d).2 4 = 1 := by
  unfold w1
  by_cases h3 : O 3 = 0
  · rw [if_pos h3]; exact Or.inr (O1_40 h3)
  · rw [if_neg h3]; exact Or.inl ((O1_4 h3).trans h)
theorem mg_4 {f O : Nat → Int} {g : Nat} (h : O 4 = 0) : (mg f O g).2 4 = 0 ∨ (mg f O g).2 4 = 1 := by
  unfold mg
  split
  · exact Or.inl h
  · split
    · exact w1_4 h
    · split
      · exact Or.inl h
      · exact w1_4 h
theorem rp_ok {f O : Nat → Int} {N : Int} (hO : Oo O N) (hf : by8 f 720) (h4 : O 4 = 0) : ∀ g, g ≤ 12 → by8 (rp f O g).1 720 ∧ Oo (rp f O g).2.1 (N + g) ∧ ((rp f O g).2.1 4 = 0 ∨ (rp f O g).2.1 4 = 1) ∧ 0 ≤ (rp f O g).2.2 ∧ (rp f O g).2.2 ≤ 5 * g := by
  intro g
  induction g with
  | zero => intro _; exact ⟨hf, by simpa [rp] using hO, Or.inl h4, by simp [rp], by simp [rp]⟩
  | succ g ih =>
    intro hg
    obtain ⟨i1, i2, i3, i4, i5⟩ := ih (by omega)
    have hnb := nbN_b (rp f O g).1 g 5
    have hnb : 0 ≤ nb (rp f O g).1 g ∧ nb (rp f O g).1 g ≤ 5 := hnb
    have hw : Oo (rp f O g).2.1 (N + ((g + 1 : Nat) : Int)) := ⟨i2.1, i2.2.1, by have := i2.2.2; omega⟩
    unfold rp
    by_cases c : (rp f O g).2.1 4 = 1
    · rw [if_pos c]
      exact ⟨i1, hw, i3, i4, by omega⟩
    · rw [if_neg c]
      refine ⟨mg_b (by omega) i1, ?_, mg_4 (by omega), ?_, ?_⟩
      · have := mg_o (f := (rp f O g).1) (g := g) i2
        rw [show N + ((g + 1 : Nat) : Int) = N + (g : Int) + 1 by omega]
        exact this
      · try dsimp only
        split <;> omega
      · try dsimp only
        split <;> omega
theorem rp_stop {f O : Nat → Int} {g n : Nat} (h : (rp f O g).2.1 4 = 1) (hg : g ≤ n) : rp f O n = rp f O g := by
  induction hg with
  | refl => rfl
  | step _ ih =>
    show (if _ then _ else _) = _
    rw [if_pos (by rw [ih]; exact h), ih]
set_option maxRecDepth 100000 in
theorem c_repair {b : Bool} {M : iM} {N : Int} (hO : Oo (M 1) N) (hNN : N < 800000000) (h4 : M 1 4 = 0) (hf : by8 (M 2) 720) (hm : ∀ x : Nat, x < 256 → M 3 x = hN 8 (x : Int)) :
    ∃ J, irun none zp_10 0 (i_ent [iP 0] 3) [] (SH b) M 0 0 (some (if (rp (M 2) (M 1) 12).2.1 4 = 1 then -9 else (rp (M 2) (M 1) 12).2.2), SH b, va_up (va_up (va_up M 1 (rp (M 2) (M 1) 12).2.1) 2 (rp (M 2) (M 1) 12).1) 4 J) := by
  have hrp := rp_ok hO hf h4
  have loop : ∀ (c g : Nat), g + c = 12 → (rp (M 2) (M 1) g).2.1 4 = 0 → ∀ J : Nat → Int, ∃ J', irun none zp_10 17 [some (iP 0), some (iI (rp (M 2) (M 1) g).2.2), some (iI (g : Int))] [] (SH b) (va_up (va_up (va_up M 1 (rp (M 2) (M 1) g).2.1) 2 (rp (M 2) (M 1) g).1) 4 J) 0 0 (some (if (rp (M 2) (M 1) 12).2.1 4 = 1 then -9 else (rp (M 2) (M 1) 12).2.2), SH b, va_up (va_up (va_up M 1 (rp (M 2) (M 1) 12).2.1) 2 (rp (M 2) (M 1) 12).1) 4 J') := by
    intro c
    induction c with
    | zero =>
      intro g hg hz J
      obtain rfl : g = 12 := by omega
      refine ⟨J, ?_⟩
      rw [if_neg (by omega)]
      refine i_iload_n rfl rfl ?_
      refine i_bipush (n := 12) rfl (by unfold iR; omega) (by decide) ?_
      refine i_icmp_ge_t rfl (by first | omega | assumption) ?_
      refine i_iload_n rfl rfl ?_
      -- at 54
      exact i_ireturn rfl rfl
    | succ c ih =>
      intro g hg hz J
      obtain ⟨i1, i2, i3, i4, i5⟩ := hrp g (by omega)
      obtain ⟨j1, j2, j3, j4, j5⟩ := hrp (g + 1) (by omega)
      have er : rp (M 2) (M 1) (g + 1) = ((mg (rp (M 2) (M 1) g).1 (rp (M 2) (M 1) g).2.1 g).1, (mg (rp (M 2) (M 1) g).1 (rp (M 2) (M 1) g).2.1 g).2, (rp (M 2) (M 1) g).2.2 + (if 1 < nb (rp (M 2) (M 1) g).1 g then nb (rp (M 2) (M 1) g).1 g else 0)) := by
        show (if _ then _ else _) = _
        rw [if_neg (by omega)]
      have e1 : (rp (M 2) (M 1) (g + 1)).1 = (mg (rp (M 2) (M 1) g).1 (rp (M 2) (M 1) g).2.1 g).1 := by rw [er]
      have e2 : (rp (M 2) (M 1) (g + 1)).2.1 = (mg (rp (M 2) (M 1) g).1 (rp (M 2) (M 1) g).2.1 g).2 := by rw [er]
      have e3 : (rp (M 2) (M 1) (g + 1)).2.2 = (rp (M 2) (M 1) g).2.2 + (if 1 < nb (rp (M 2) (M 1) g).1 g then nb (rp (M 2) (M 1) g).1 g else 0) := by rw [er]
      obtain ⟨J1, h1⟩ := c_mend (b := b) (M := va_up (va_up (va_up M 1 (rp (M 2) (M 1) g).2.1) 2 (rp (M 2) (M 1) g).1) 4 J) (g := g) (N := N + g) (by omega) i2 (by omega) i1 hm
      have h1 : irun none zp_49 0 (i_ent [iP 1, iI (g : Int)] 5) [] (SH b) (va_up (va_up (va_up M 1 (rp (M 2) (M 1) g).2.1) 2 (rp (M 2) (M 1) g).1) 4 J) 0 0 (some (if 1 < nb (rp (M 2) (M 1) g).1 g then nb (rp (M 2) (M 1) g).1 g else 0), SH b, va_up (va_up (va_up (va_up (va_up (va_up M 1 (rp (M 2) (M 1) g).2.1) 2 (rp (M 2) (M 1) g).1) 4 J) 1 (mg (rp (M 2) (M 1) g).1 (rp (M 2) (M 1) g).2.1 g).2) 2 (mg (rp (M 2) (M 1) g).1 (rp (M 2) (M 1) g).2.1 g).1) 4 J1) := h1
      rw [← e1, ← e2, show va_up (va_up (va_up (va_up (va_up (va_up M 1 (rp (M 2) (M 1) g).2.1) 2 (rp (M 2) (M 1) g).1) 4 J) 1 (rp (M 2) (M 1) (g + 1)).2.1) 2 (rp (M 2) (M 1) (g + 1)).1) 4 J1 = va_up (va_up (va_up M 1 (rp (M 2) (M 1) (g + 1)).2.1) 2 (rp (M 2) (M 1) (g + 1)).1) 4 J1 by
        rw [up_sw (c := 4) (d := 1) (by decide), up_sw (c := 4) (d := 2) (by decide), up_up, up_sw (c := 2) (d := 1) (by decide), up_up, up_up]] at h1
      generalize hV : (if 1 < nb (rp (M 2) (M 1) g).1 g then nb (rp (M 2) (M 1) g).1 g else 0) = V at h1 e3
      have hst : irun none zp_34 0 (i_ent [iP 1] 1) [] (SH b) (va_up (va_up (va_up M 1 (rp (M 2) (M 1) (g + 1)).2.1) 2 (rp (M 2) (M 1) (g + 1)).1) 4 J1) 0 0 (some ((rp (M 2) (M 1) (g + 1)).2.1 4), SH b, va_up (va_up (va_up M 1 (rp (M 2) (M 1) (g + 1)).2.1) 2 (rp (M 2) (M 1) (g + 1)).1) 4 J1) := c_isStopped (M := va_up (va_up (va_up M 1 (rp (M 2) (M 1) (g + 1)).2.1) 2 (rp (M 2) (M 1) (g + 1)).1) 4 J1) j3
      rcases j3 with j3 | j3
      · obtain ⟨J', h2⟩ := ih (g + 1) (by omega) j3 J1
        refine ⟨J', ?_⟩
        rw [e3] at h2 j4 j5
        refine i_iload_n rfl rfl ?_
        refine i_bipush (n := 12) rfl (by unfold iR; omega) (by decide) ?_
        refine i_icmp_ge_f rfl (by first | omega | assumption) ?_
        refine i_iload_n rfl rfl ?_
        refine i_aload_n rfl rfl ?_
        refine i_getr rfl rfl rfl rfl (by decide) rfl ?_
        refine i_iload_n rfl rfl ?_
        -- at 29
        refine i_call (T := (49, zp_49)) rfl rfl (h1) rfl rfl rfl rfl rfl rfl rfl ?_
        try dsimp only
        refine i_iadd rfl (by unfold iR; omega) ?_
        refine i_istore_n rfl (Nat.le_of_ble_eq_true rfl) rfl ?_
        refine i_aload_n rfl rfl ?_
        refine i_getr rfl rfl rfl rfl (by decide) rfl ?_
        -- at 38
        refine i_call (T := (34, zp_34)) rfl rfl (hst) rfl rfl rfl rfl rfl rfl rfl ?_
        try dsimp only
        rw [j3]
        refine i_if_eq_t rfl (by first | omega | assumption) ?_
        refine i_iinc rfl rfl (by unfold iR; omega) (Nat.le_of_ble_eq_true rfl) rfl ?_
        refine i_goto rfl ?_
        -- at 17
        exact h2
      · refine ⟨J1, ?_⟩
        rw [rp_stop (g := g + 1) (n := 12) j3 (by omega), if_pos j3]
        rw [e3] at j4 j5
        refine i_iload_n rfl rfl ?_
        refine i_bipush (n := 12) rfl (by unfold iR; omega) (by decide) ?_
        refine i_icmp_ge_f rfl (by first | omega | assumption) ?_
        refine i_iload_n rfl rfl ?_
        refine i_aload_n rfl rfl ?_
        refine i_getr rfl rfl rfl rfl (by decide) rfl ?_
        refine i_iload_n rfl rfl ?_
        -- at 29
        refine i_call (T := (49, zp_49)) rfl rfl (h1) rfl rfl rfl rfl rfl rfl rfl ?_
        try dsimp only
        refine i_iadd rfl (by unfold iR; omega) ?_
        refine i_istore_n rfl (Nat.le_of_ble_eq_true rfl) rfl ?_
        refine i_aload_n rfl rfl ?_
        refine i_getr rfl rfl rfl rfl (by decide) rfl ?_
        -- at 38
        refine i_call (T := (34, zp_34)) rfl rfl (hst) rfl rfl rfl rfl rfl rfl rfl ?_
        try dsimp only
        rw [j3]
        refine i_if_eq_f rfl (by first | omega | assumption) ?_
        refine i_bipush (n := -9) rfl (by unfold iR; omega) (by decide) ?_
        -- at 46
        exact i_ireturn rfl rfl
  obtain ⟨J, h⟩ := loop 12 0 rfl h4 (M 4)
  refine ⟨J, ?_⟩
  have h : irun none zp_10 17 [some (iP 0), some (iI 0), some (iI ((0 : Nat) : Int))] [] (SH b) (va_up (va_up (va_up M 1 (M 1)) 2 (M 2)) 4 (M 4)) 0 0 _ := h
  rw [up_id M 1 rfl, up_id M 2 rfl, up_id M 4 rfl] at h
  refine i_aload_n rfl rfl ?_
  refine i_getr rfl rfl rfl rfl (by decide) rfl ?_
  -- at 4
  refine i_call (T := (34, zp_34)) rfl rfl (c_isStopped (Or.inl h4)) rfl rfl rfl rfl rfl rfl rfl ?_
  try dsimp only
  show irun none zp_10 7 _ [iI (M 1 4)] _ _ 0 0 _
  refine i_if_eq_t rfl (by first | omega | assumption) ?_
  refine i_iconst (n := 0) rfl (by unfold iR; omega) ?_
  refine i_istore_n rfl (Nat.le_of_ble_eq_true rfl) rfl ?_
  refine i_iconst (n := 0) rfl (by unfold iR; omega) ?_
  refine i_istore_n rfl (Nat.le_of_ble_eq_true rfl) rfl ?_
  -- at 17
  exact h
