def lbN (f : Nat → Int) (g : Nat) : Nat → Int
  | 0 => -1
  | m + 1 => if f (mb g m * 12 + 11) = chk f (mb g m) then lbN f g m else (m : Int)
theorem lb_5 (f : Nat → Int) (g : Nat) : lbN f g 5 = if ¬ gd f (48 + g) then 4 else if ¬ gd f (g * 4 + 3) then 3 else if ¬ gd f (g * 4 + 2) then 2 else if ¬ gd f (g * 4 + 1) then 1 else if ¬ gd f (g * 4) then 0 else -1 := by
  simp only [lbN, mb, gd]
  simp
theorem lb_1 {f : Nat → Int} {g : Nat} (h : nb f g = 1) : lbN f g 5 = ((fb f g : Nat) : Int) := by
  rw [nb_5] at h
  rw [lb_5]
  unfold fb
  grind
theorem lb_0 {f : Nat → Int} {g : Nat} (h : nb f g = 0) : lbN f g 5 = -1 ∧ gd f (48 + g) := by
  rw [nb_5] at h
  rw [lb_5]
  grind
theorem lb_b (f : Nat → Int) (g m : Nat) : -1 ≤ lbN f g m ∧ lbN f g m < m := by
  induction m with
  | zero => unfold lbN; omega
  | succ m ih =>
    unfold lbN
    split <;> omega
theorem eqN_all {f J : Nat → Int} {s : Nat} : ∀ {n : Nat}, eqN f J s n = 1 → ∀ k, k < n → f (s * 12 + k) = J k := by
  intro n
  induction n with
  | zero => intro _ k hk; omega
  | succ n ih =>
    intro h k hk
    have h : (if eqN f J s n = 1 ∧ f (s * 12 + n) = J n then (1 : Int) else 0) = 1 := h
    split at h
    · rename_i c
      by_cases e : k = n
      · subst e; exact c.2
      · exact ih c.1 k (by omega)
    · omega
theorem eqN_12 {f J K : Nat → Int} {s : Nat} (hg : gd f s) (hK : ∀ k, k < 11 → K k = J k) (hK2 : K 11 = chk J 0) : eqN f K s 12 = eqN f J s 11 := by
  show (if eqN f K s 11 = 1 ∧ f (s * 12 + 11) = K 11 then (1 : Int) else 0) = _
  rw [eqN_c (J := K) (K := J) hK]
  rcases eqN_01 f J s 11 with h | h
  · rw [h, if_neg (by omega)]
  · rw [h, if_pos]
    refine ⟨rfl, ?_⟩
    rw [hK2, hg]
    refine chk_c (fun j hj => ?_)
    rw [eqN_all h j hj, show 0 * 12 + j = j by omega]
set_option maxRecDepth 100000 in
theorem d_isJoined {b : Bool} {M : iM} {g : Nat} (hg : g < 12) (hf : by8 (M 41) 720) (hgd : gd (M 41) (48 + g)) : ∃ S, irun none zp_158 0 (i_ent [iP 40, iI (g : Int)] 4) [] (SH b) M 0 0 (some (eqN (M 41) (jn (M 41) g 4) (48 + g) 11), SH b, va_up M 51 S) := by
  generalize hJ : (fun k => if k < 11 then jn (M 41) g 4 k else M 51 k) = J
  have hj := d_join (b := b) (M := M) (g := g) (lo := 4) hg hf
  rw [hJ] at hj
  have hJk : ∀ k, k < 11 → J k = jn (M 41) g 4 k := fun k hk => by rw [← hJ]; dsimp only; rw [if_pos hk]
  have hc : chk J 0 = chk (jn (M 41) g 4) 0 := chk_c (fun j hj => hJk _ (by omega))
  have hJ8 : by8 J 11 := fun k hk => by rw [hJk k hk]; exact jn_b hf hg (by omega)
  refine ⟨va_up J 11 (chk J 0), ?_⟩
  rw [← eqN_12 (K := va_up J 11 (chk J 0)) hgd (fun k hk => by rw [up_n (by omega)]; exact hJk k hk) (by rw [up_s, hc])]
  have loop : ∀ (c k : Nat), k + c = 12 → irun none zp_158 21 [some (iP 40), some (iI (g : Int)), some (iI (eqN (M 41) (va_up J 11 (chk J 0)) (48 + g) k)), some (iI (k : Int))] [] (SH b) (va_up M 51 (va_up J 11 (chk J 0))) 0 0 (some (eqN (M 41) (va_up J 11 (chk J 0)) (48 + g) 12), SH b, va_up M 51 (va_up J 11 (chk J 0))) := by
    intro c
    induction c with
    | zero =>
      intro k hk
      obtain rfl : k = 12 := by omega
      have := eqN_01 (M 41) (va_up J 11 (chk J 0)) (48 + g) 12
      refine i_iload_n rfl rfl ?_
      refine i_bipush (n := 12) rfl (by unfold iR; omega) (by decide) ?_
      refine i_icmp_ge_t rfl (by first | omega | assumption) ?_
      refine i_iload_n rfl rfl ?_
      -- at 67
      exact i_zreturn rfl rfl (by first | omega | assumption)
    | succ c ih =>
      intro k hk
      have hn := ih (k + 1) (by omega)
      have he : eqN (M 41) (va_up J 11 (chk J 0)) (48 + g) (k + 1) = if eqN (M 41) (va_up J 11 (chk J 0)) (48 + g) k = 1 ∧ M 41 ((48 + g) * 12 + k) = va_up J 11 (chk J 0) k then 1 else 0 := rfl
      generalize va_up J 11 (chk J 0) = K at *
      rcases eqN_01 (M 41) K (48 + g) k with h0 | h0
      · rw [he, if_neg (by omega)] at hn
        refine i_iload_n rfl rfl ?_
        refine i_bipush (n := 12) rfl (by unfold iR; omega) (by decide) ?_
        refine i_icmp_ge_f rfl (by first | omega | assumption) ?_
        refine i_iload_n rfl rfl ?_
        refine i_if_eq_t rfl (by first | omega | assumption) ?_
        refine i_iconst (n := 0) rfl (by unfold iR; omega) ?_
        refine i_istore_n rfl (Nat.le_of_ble_eq_true rfl) rfl ?_
        refine i_iinc rfl rfl (by unfold iR; omega) (Nat.le_of_ble_eq_true rfl) rfl ?_
        refine i_goto rfl ?_
        -- at 21
        exact hn
      · have e1 : (12 * ((48 : Int) + (g : Int)) + (k : Int)).toNat = (48 + g) * 12 + k := by omega
        have e2 : (k : Int).toNat = k := by omega
        by_cases hc : M 41 ((48 + g) * 12 + k) = K k
        · rw [he, if_pos ⟨h0, hc⟩] at hn
          refine i_iload_n rfl rfl ?_
          refine i_bipush (n := 12) rfl (by unfold iR; omega) (by decide) ?_
          refine i_icmp_ge_f rfl (by first | omega | assumption) ?_
          refine i_iload_n rfl rfl ?_
          refine i_if_eq_f rfl (by first | omega | assumption) ?_
          refine i_aload_n rfl rfl ?_
          refine i_getr rfl rfl rfl rfl (by decide) rfl ?_
          refine i_iload_n rfl rfl ?_
          refine i_iald rfl rfl (by first | omega | assumption) (by first | omega | assumption) (by decide) ?_
          refine i_aload_n rfl rfl ?_
          refine i_getr rfl rfl rfl rfl (by decide) rfl ?_
          refine i_bipush (n := 12) rfl (by unfold iR; omega) (by decide) ?_
          refine i_bipush (n := 48) rfl (by unfold iR; omega) (by decide) ?_
          refine i_iload_n rfl rfl ?_
          refine i_iadd rfl (by unfold iR; omega) ?_
          refine i_imul rfl (by unfold iR; omega) ?_
          refine i_iload_n rfl rfl ?_
          refine i_iadd rfl (by unfold iR; omega) ?_
          refine i_iald rfl rfl (by first | omega | assumption) (by first | omega | assumption) (by decide) ?_
          -- at 51
          rw [e1, e2]
          show irun none zp_158 51 _ [iI (M 41 ((48 + g) * 12 + k)), iI (K k)] _ _ 0 0 _
          refine i_icmp_ne_f rfl (by first | omega | assumption) ?_
          refine i_iconst (n := 1) rfl (by unfold iR; omega) ?_
          refine i_goto rfl ?_
          refine i_istore_n rfl (Nat.le_of_ble_eq_true rfl) rfl ?_
          refine i_iinc rfl rfl (by unfold iR; omega) (Nat.le_of_ble_eq_true rfl) rfl ?_
          refine i_goto rfl ?_
          -- at 21
          exact hn
        · rw [he, if_neg (fun q => hc q.2)] at hn
          refine i_iload_n rfl rfl ?_
          refine i_bipush (n := 12) rfl (by unfold iR; omega) (by decide) ?_
          refine i_icmp_ge_f rfl (by first | omega | assumption) ?_
          refine i_iload_n rfl rfl ?_
          refine i_if_eq_f rfl (by first | omega | assumption) ?_
          refine i_aload_n rfl rfl ?_
          refine i_getr rfl rfl rfl rfl (by decide) rfl ?_
          refine i_iload_n rfl rfl ?_
          refine i_iald rfl rfl (by first | omega | assumption) (by first | omega | assumption) (by decide) ?_
          refine i_aload_n rfl rfl ?_
          refine i_getr rfl rfl rfl rfl (by decide) rfl ?_
          refine i_bipush (n := 12) rfl (by unfold iR; omega) (by decide) ?_
          refine i_bipush (n := 48) rfl (by unfold iR; omega) (by decide) ?_
          refine i_iload_n rfl rfl ?_
          refine i_iadd rfl (by unfold iR; omega) ?_
          refine i_imul rfl (by unfold iR; omega) ?_
          refine i_iload_n rfl rfl ?_
          refine i_iadd rfl (by unfold iR; omega) ?_
          refine i_iald rfl rfl (by first | omega | assumption) (by first | omega | assumption) (by decide) ?_
          -- at 51
          rw [e1, e2]
          show irun none zp_158 51 _ [iI (M 41 ((48 + g) * 12 + k)), iI (K k)] _ _ 0 0 _
          refine i_icmp_ne_t rfl (fun q => hc q.symm) ?_
          refine i_iconst (n := 0) rfl (by unfold iR; omega) ?_
          refine i_istore_n rfl (Nat.le_of_ble_eq_true rfl) rfl ?_
          refine i_iinc rfl rfl (by unfold iR; omega) (Nat.le_of_ble_eq_true rfl) rfl ?_
          refine i_goto rfl ?_
          -- at 21
          exact hn
  refine i_aload_n rfl rfl ?_
  refine i_iload_n rfl rfl ?_
  refine i_iconst (n := 4) rfl (by unfold iR; omega) ?_
  -- at 3
  refine i_call (T := (114, zp_114)) rfl rfl (hj) rfl rfl rfl rfl rfl rfl rfl ?_
  try dsimp only
  refine i_aload_n rfl rfl ?_
  refine i_getr rfl rfl rfl rfl (by decide) rfl ?_
  refine i_bipush (n := 11) rfl (by unfold iR; omega) (by decide) ?_
  refine i_aload_n rfl rfl ?_
  -- at 13
  refine i_call (T := (110, zp_110)) rfl rfl (d_check (M := va_up M 51 J) hJ8) rfl rfl rfl rfl rfl rfl rfl ?_
  try dsimp only
  refine i_iast rfl rfl (by first | omega | assumption) (by first | omega | assumption) ?_
  refine i_iconst (n := 1) rfl (by unfold iR; omega) ?_
  refine i_istore_n rfl (Nat.le_of_ble_eq_true rfl) rfl ?_
  refine i_iconst (n := 0) rfl (by unfold iR; omega) ?_
  refine i_istore_n rfl (Nat.le_of_ble_eq_true rfl) rfl ?_
  -- at 21
  rw [up_st]
  exact loop 12 0 rfl
def w1m (f Q : Nat → Int) (s : Nat) (d : Nat → Int) : (Nat → Int) × (Nat → Int) := if Q 2 = 1 ∧ Q 3 = 0 then (f, Q1 Q) else (wS f s d, Q1 Q)
def mgm (f Q : Nat → Int) (g : Nat) : (Nat → Int) × (Nat → Int) := if 1 < nb f g then (f, Q) else if nb f g = 1 then w1m f Q (mb g (fb f g)) (jn f g (fb f g : Nat)) else if eqN f (jn f g 4) (48 + g) 11 = 1 then (f, Q) else w1m f Q (48 + g) (jn f g 4)
def rpm (f Q : Nat → Int) : Nat → (Nat → Int) × (Nat → Int) × Int
  | 0 => (f, Q, 0)
  | g + 1 => if (rpm f Q g).2.1 1 = 1 then rpm f Q g else ((mgm (rpm f Q g).1 (rpm f Q g).2.1 g).1, (mgm (rpm f Q g).1 (rpm f Q g).2.1 g).2, (rpm f Q g).2.2 + (if 1 < nb (rpm f Q g).1 g then nb (rpm f Q g).1 g else 0))
theorem Q1_1 {Q : Nat → Int} (h : ¬ (Q 2 = 1 ∧ Q 3 = 0)) : Q1 Q 1 = Q 1 := by unfold Q1; rw [if_neg h]; simp
theorem Q1_10 {Q : Nat → Int} (h : Q 2 = 1 ∧ Q 3 = 0) : Q1 Q 1 = 1 := by unfold Q1; rw [if_pos h]; simp
theorem Q1_n {Q : Nat → Int} {k : Nat} (h : 3 < k) : Q1 Q k = Q k := by
  unfold Q1
  split
  · rw [if_neg (by omega), if_neg (by omega)]
  · rw [if_neg (by omega)]
theorem mg_r {f O Q : Nat → Int} {g : Nat} (h : Rl O Q) : (mgm f Q g).1 = (mg f O g).1 ∧ Rl (mg f O g).2 (mgm f Q g).2 ∧ ∀ k, 3 < k → (mgm f Q g).2 k = Q k := by
  have hw : ∀ s d, (w1m f Q s d).1 = (w1 f O s d).1 ∧ Rl (w1 f O s d).2 (w1m f Q s d).2 ∧ ∀ k, 3 < k → (w1m f Q s d).2 k = Q k := by
    intro s d
    unfold w1m w1
    by_cases hz : O 3 = 0
    · rw [if_pos hz, if_pos ((Rl_0 h).mp hz)]
      exact ⟨rfl, Rl_1 h, fun k hk => Q1_n hk⟩
    · rw [if_neg hz, if_neg (fun q => hz ((Rl_0 h).mpr q))]
      exact ⟨rfl, Rl_1 h, fun k hk => Q1_n hk⟩
  unfold mgm mg
  split
  · exact ⟨rfl, h, fun _ _ => rfl⟩
  · split
    · exact hw _ _
    · split
      · exact ⟨rfl, h, fun _ _ => rfl⟩
      · exact hw _ _
theorem rp_r {f O Q : Nat → Int} (h : Rl O Q) : ∀ g, (rpm f Q g).1 = (rp f O g).1 ∧ Rl (rp f O g).2.1 (rpm f Q g).2.1 ∧ (∀ k, 3 < k → (rpm f Q g).2.1 k = Q k) ∧ (rpm f Q g).2.2 = (rp f O g).2.2 := by
  intro g
  induction g with
  | zero => exact ⟨rfl, h, fun _ _ => rfl, rfl⟩
  | succ g ih =>
    obtain ⟨i1, i2, i3, i4⟩ := ih
    unfold rpm rp
    rw [show (rpm f Q g).2.1 1 = (rp f O g).2.1 4 from i2.2.1]
    split
    · exact ⟨i1, i2, i3, i4⟩
    · obtain ⟨j1, j2, j3⟩ := mg_r (f := (rp f O g).1) (g := g) i2
      try dsimp only
      rw [i1, i4]
      exact ⟨j1, j2, fun k hk => (j3 k hk).trans (i3 k hk), rfl⟩
theorem rpm_stop {f Q : Nat → Int} {g n : Nat} (h : (rpm f Q g).2.1 1 = 1) (hg : g ≤ n) : rpm f Q n = rpm f Q g := by
  induction hg with
  | refl => rfl
  | step _ ih =>
    show (if _ then _ else _) = _
    rw [if_pos (by rw [ih]; exact h), ih]
theorem Qq_rl {O Q : Nat → Int} (h : Rl O Q) : Qq Q := Rl_q h

theorem mb4 (g : Nat) : mb g 4 = 48 + g := rfl
set_option maxRecDepth 100000 in
theorem d_repair {b : Bool} {M : iM} {O : Nat → Int} (hR : Rl O (M 40)) (h1 : M 40 1 = 0) (hf : by8 (M 41) 720) (hall : ∀ g, g ≤ 12 → by8 (rpm (M 41) (M 40) g).1 720 ∧ Qq (rpm (M 41) (M 40) g).2.1 ∧ 0 ≤ (rpm (M 41) (M 40) g).2.2 ∧ (rpm (M 41) (M 40) g).2.2 ≤ 5 * g ∧ ((rpm (M 41) (M 40) g).2.1 1 = 0 ∨ (rpm (M 41) (M 40) g).2.1 1 = 1)) :
    ∃ S, irun none zp_159 0 (i_ent [iP 40] 7) [] (SH b) M 0 0 (some (if (rpm (M 41) (M 40) 12).2.1 1 = 1 then -9 else (rpm (M 41) (M 40) 12).2.2), SH b, va_up (va_up (va_up M 40 (rpm (M 41) (M 40) 12).2.1) 51 S) 41 (rpm (M 41) (M 40) 12).1) := by
  have inner : ∀ (q : Option Int × List zS × iM) (g : Nat) (f Q S : Nat → Int) (stay : Int), g < 12 → by8 f 720 → (irun none zp_159 79 [some (iP 40), some (iI stay), some (iI (g : Int)), some (iI (nb f g)), some (iI (lbN f g 5)), some (iI 5), some (iI (bi (f ((48 + g) * 12 + 11) = chk f (48 + g))))] [] (SH b) (va_up (va_up (va_up M 40 Q) 51 (fun j => if j < 12 then f ((48 + g) * 12 + j) else S j)) 41 f) 0 0 q) →
      ∀ (c k : Nat), k + c = 5 → ∀ (l6 : Option iV) (S' : Nat → Int), (∀ j, 12 ≤ j → S' j = S j) → (k = 5 → S' = fun j => if j < 12 then f ((48 + g) * 12 + j) else S j) → (k = 5 → l6 = some (iI (bi (f ((48 + g) * 12 + 11) = chk f (48 + g))))) → irun none zp_159 28 [some (iP 40), some (iI stay), some (iI (g : Int)), some (iI (nbN f g k)), some (iI (lbN f g k)), some (iI (k : Int)), l6] [] (SH b) (va_up (va_up (va_up M 40 Q) 51 S') 41 f) 0 0 q := by
    intro q g f Q S stay hg hf kq c
    induction c with
    | zero =>
      intro k hk l6 S' h1 h2 h6
      obtain rfl : k = 5 := by omega
      rw [h2 rfl, h6 rfl]
      refine i_iload rfl rfl ?_
      refine i_iconst (n := 5) rfl (by unfold iR; omega) ?_
      refine i_icmp_ge_t rfl (by first | omega | assumption) ?_
      -- at 79
      exact kq
    | succ c ih =>
      intro k hk l6 S' h1 h2 h6
      have hb := mb_b hg (show k < 5 by omega)
      have hnb := nbN_b f g k
      have hlb := lb_b f g k
      have hgd := d_isGood (b := b) (M := va_up (va_up (va_up M 40 Q) 51 S') 41 f) (s := mb g k) hb hf
      have hgd : irun none zp_112 0 (i_ent [iP 40, iI ((mb g k : Nat) : Int)] 2) [] (SH b) (va_up (va_up (va_up M 40 Q) 51 S') 41 f) 0 0 (some (bi (f (mb g k * 12 + 11) = chk f (mb g k))), SH b, va_up (va_up (va_up (va_up M 40 Q) 51 S') 41 f) 51 (fun j => if j < 12 then f (mb g k * 12 + j) else S' j)) := hgd
      rw [show va_up (va_up (va_up (va_up M 40 Q) 51 S') 41 f) 51 (fun j => if j < 12 then f (mb g k * 12 + j) else S' j) = va_up (va_up (va_up M 40 Q) 51 (fun j => if j < 12 then f (mb g k * 12 + j) else S' j)) 41 f by rw [up_sw (c := 41) (d := 51) (by decide), up_up]] at hgd
      have hnx := ih (k + 1) (by omega)
      have hS : ∀ j, 12 ≤ j → (fun j => if j < 12 then f (mb g k * 12 + j) else S' j) j = S j := fun j hj => by
        try dsimp only
        rw [if_neg (by omega)]
        exact h1 j hj
      have hS5 : k + 1 = 5 → (fun j => if j < 12 then f (mb g k * 12 + j) else S' j) = fun j => if j < 12 then f ((48 + g) * 12 + j) else S j := by
        intro e
        obtain rfl : k = 4 := by omega
        funext j
        rw [mb4]
        by_cases c : j < 12
        · rw [if_pos c, if_pos c]
        · rw [if_neg c, if_neg c]
          exact h1 j (by omega)
      by_cases hc : f (mb g k * 12 + 11) = chk f (mb g k)
      · have e1 : nbN f g (k + 1) = nbN f g k := by
          show nbN f g k + (if _ then 0 else 1) = _
          rw [if_pos hc]
          omega
        have e2 : lbN f g (k + 1) = lbN f g k := by
          show (if _ then _ else _) = _
          rw [if_pos hc]
        have hnx := hnx (some (iI 1)) (fun j => if j < 12 then f (mb g k * 12 + j) else S' j) hS hS5 (fun e => by
          obtain rfl : k = 4 := by omega
          rw [bi_t (show f ((48 + g) * 12 + 11) = chk f (48 + g) from hc)])
        rw [e1, e2] at hnx
        refine i_iload rfl rfl ?_
        refine i_iconst (n := 5) rfl (by unfold iR; omega) ?_
        refine i_icmp_ge_f rfl (by first | omega | assumption) ?_
        refine i_aload_n rfl rfl ?_
        refine i_iload_n rfl rfl ?_
        refine i_iload rfl rfl ?_
        -- at 38
        refine i_call (T := (113, zp_113)) rfl rfl (d_member hg (show k < 5 by omega)) rfl rfl rfl rfl rfl rfl rfl ?_
        try dsimp only
        refine i_call (T := (112, zp_112)) rfl rfl (hgd) rfl rfl rfl rfl rfl rfl rfl ?_
        try dsimp only
        show irun none zp_159 44 _ [iI (bi _)] _ _ 0 0 _
        rw [bi_t hc]
        refine i_istore rfl (Nat.le_of_ble_eq_true rfl) rfl ?_
        refine i_iload rfl rfl ?_
        refine i_if_eq_f rfl (by first | omega | assumption) ?_
        refine i_iload_n rfl rfl ?_
        refine i_goto rfl ?_
        refine i_istore_n rfl (Nat.le_of_ble_eq_true rfl) rfl ?_
        refine i_iload rfl rfl ?_
        refine i_if_eq_f rfl (by first | omega | assumption) ?_
        refine i_iload rfl rfl ?_
        refine i_goto rfl ?_
        refine i_istore rfl (Nat.le_of_ble_eq_true rfl) rfl ?_
        refine i_iinc rfl rfl (by unfold iR; omega) (Nat.le_of_ble_eq_true rfl) rfl ?_
        refine i_goto rfl ?_
        -- at 28
        exact hnx
      · have e1 : nbN f g (k + 1) = nbN f g k + 1 := by
          show nbN f g k + (if _ then 0 else 1) = _
          rw [if_neg hc]
        have e2 : lbN f g (k + 1) = (k : Int) := by
          show (if _ then _ else _) = _
          rw [if_neg hc]
        have hnx := hnx (some (iI 0)) (fun j => if j < 12 then f (mb g k * 12 + j) else S' j) hS hS5 (fun e => by
          obtain rfl : k = 4 := by omega
          rw [bi_f (show ¬ f ((48 + g) * 12 + 11) = chk f (48 + g) from hc)])
        rw [e1, e2] at hnx
        refine i_iload rfl rfl ?_
        refine i_iconst (n := 5) rfl (by unfold iR; omega) ?_
        refine i_icmp_ge_f rfl (by first | omega | assumption) ?_
        refine i_aload_n rfl rfl ?_
        refine i_iload_n rfl rfl ?_
        refine i_iload rfl rfl ?_
        -- at 38
        refine i_call (T := (113, zp_113)) rfl rfl (d_member hg (show k < 5 by omega)) rfl rfl rfl rfl rfl rfl rfl ?_
        try dsimp only
        refine i_call (T := (112, zp_112)) rfl rfl (hgd) rfl rfl rfl rfl rfl rfl rfl ?_
        try dsimp only
        show irun none zp_159 44 _ [iI (bi _)] _ _ 0 0 _
        rw [bi_f hc]
        refine i_istore rfl (Nat.le_of_ble_eq_true rfl) rfl ?_
        refine i_iload rfl rfl ?_
        refine i_if_eq_t rfl (by first | omega | assumption) ?_
        refine i_iload_n rfl rfl ?_
        refine i_iconst (n := 1) rfl (by unfold iR; omega) ?_
        refine i_iadd rfl (by unfold iR; omega) ?_
        refine i_istore_n rfl (Nat.le_of_ble_eq_true rfl) rfl ?_
        refine i_iload rfl rfl ?_
        refine i_if_eq_t rfl (by first | omega | assumption) ?_
        refine i_iload rfl rfl ?_
        refine i_istore rfl (Nat.le_of_ble_eq_true rfl) rfl ?_
        refine i_iinc rfl rfl (by unfold iR; omega) (Nat.le_of_ble_eq_true rfl) rfl ?_
        refine i_goto rfl ?_
        -- at 28
        exact hnx
  have tail : ∀ (q : Option Int × List zS × iM) (g mm : Nat) (f Q S : Nat → Int) (stay br : Int) (l6 : Option iV), g < 12 → mm < 5 → by8 f 720 → Qq Q → Q 1 = 0 → br < 2 → iR br →
      ((w1m f Q (mb g mm) (jn f g (mm : Int))).2 1 = 0 → ∀ S' : Nat → Int, (∃ S2 : Nat → Int, S' = va_up S2 11 (chk S2 0) ∧ S2 = fun k => if k < 11 then jn f g (mm : Int) k else S k) → irun none zp_159 145 [some (iP 40), some (iI stay), some (iI (g : Int)), some (iI br), some (iI (mm : Int)), some (iI 5), l6] [] (SH b) (va_up (va_up (va_up M 40 (w1m f Q (mb g mm) (jn f g (mm : Int))).2) 51 S') 41 (w1m f Q (mb g mm) (jn f g (mm : Int))).1) 0 0 q) →
      ((w1m f Q (mb g mm) (jn f g (mm : Int))).2 1 = 1 → q = (some (-9), SH b, va_up (va_up (va_up M 40 (w1m f Q (mb g mm) (jn f g (mm : Int))).2) 51 (fun k => if k < 11 then jn f g (mm : Int) k else S k)) 41 (w1m f Q (mb g mm) (jn f g (mm : Int))).1)) →
      irun none zp_159 112 [some (iP 40), some (iI stay), some (iI (g : Int)), some (iI br), some (iI (mm : Int)), some (iI 5), l6] [] (SH b) (va_up (va_up (va_up M 40 Q) 51 S) 41 f) 0 0 q := by
    intro q g mm f Q S stay br l6 hg hmm hf hq hq1 hbr hbi k1 k2
    have hj := d_join (b := b) (M := va_up (va_up (va_up M 40 Q) 51 S) 41 f) (g := g) (lo := (mm : Int)) hg hf
    have hj : irun none zp_114 0 (i_ent [iP 40, iI (g : Int), iI (mm : Int)] 6) [] (SH b) (va_up (va_up (va_up M 40 Q) 51 S) 41 f) 0 0 (none, SH b, va_up (va_up (va_up (va_up M 40 Q) 51 S) 41 f) 51 (fun k => if k < 11 then jn f g (mm : Int) k else S k)) := hj
    rw [show va_up (va_up (va_up (va_up M 40 Q) 51 S) 41 f) 51 (fun k => if k < 11 then jn f g (mm : Int) k else S k) = va_up (va_up (va_up M 40 Q) 51 (fun k => if k < 11 then jn f g (mm : Int) k else S k)) 41 f by rw [up_sw (c := 41) (d := 51) (by decide), up_up]] at hj
    generalize hS2 : (fun k => if k < 11 then jn f g (mm : Int) k else S k) = S2 at hj k1 k2
    have hS2k : ∀ k, k < 11 → S2 k = jn f g (mm : Int) k := fun k hk => by rw [← hS2]; dsimp only; rw [if_pos hk]
    have hi := d_inscribe (b := b) (M := va_up (va_up (va_up M 40 Q) 51 S2) 41 f) (s := mb g mm) (mb_b hg hmm) hq (fun k hk => by
      show 0 ≤ S2 k ∧ S2 k < 256
      rw [hS2k k hk]
      exact jn_b hf hg (by omega))
    have hw : wS f (mb g mm) S2 = wS f (mb g mm) (jn f g (mm : Int)) := wS_c hS2k
    by_cases h0 : Q 2 = 1 ∧ Q 3 = 0
    · rw [if_pos (show (va_up (va_up (va_up M 40 Q) 51 S2) 41 f) 40 2 = 1 ∧ (va_up (va_up (va_up M 40 Q) 51 S2) 41 f) 40 3 = 0 from h0)] at hi
      have hi : irun none zp_116 0 (i_ent [iP 40, iI ((mb g mm : Nat) : Int)] 3) [] (SH b) (va_up (va_up (va_up M 40 Q) 51 S2) 41 f) 0 0 (some 0, SH b, va_up (va_up (va_up (va_up M 40 Q) 51 S2) 41 f) 40 (Q1 Q)) := hi
      rw [show va_up (va_up (va_up (va_up M 40 Q) 51 S2) 41 f) 40 (Q1 Q) = va_up (va_up (va_up M 40 (Q1 Q)) 51 S2) 41 f by rw [up_sw (c := 41) (d := 40) (by decide), up_sw (c := 51) (d := 40) (by decide), up_up]] at hi
      have e : w1m f Q (mb g mm) (jn f g (mm : Int)) = (f, Q1 Q) := by unfold w1m; rw [if_pos h0]
      rw [e] at k2
      rw [k2 (Q1_10 h0)]
      refine i_iload_n rfl rfl ?_
      refine i_iconst (n := 2) rfl (by unfold iR; omega) ?_
      refine i_icmp_ge_f rfl (by first | omega | assumption) ?_
      refine i_iload rfl rfl ?_
      refine i_if_lt_f rfl (by first | omega | assumption) ?_
      refine i_aload_n rfl rfl ?_
      refine i_iload_n rfl rfl ?_
      refine i_iload rfl rfl ?_
      -- at 126
      refine i_call (T := (114, zp_114)) rfl rfl (hj) rfl rfl rfl rfl rfl rfl rfl ?_
      try dsimp only
      refine i_aload_n rfl rfl ?_
      refine i_iload_n rfl rfl ?_
      refine i_iload rfl rfl ?_
      -- at 133
      refine i_call (T := (113, zp_113)) rfl rfl (d_member hg hmm) rfl rfl rfl rfl rfl rfl rfl ?_
      try dsimp only
      refine i_call (T := (116, zp_116)) rfl rfl (hi) rfl rfl rfl rfl rfl rfl rfl ?_
      try dsimp only
      refine i_if_ne_f rfl (by first | omega | assumption) ?_
      refine i_bipush (n := -9) rfl (by unfold iR; omega) (by decide) ?_
      -- at 144
      exact i_ireturn rfl rfl
    · rw [if_neg (show ¬ ((va_up (va_up (va_up M 40 Q) 51 S2) 41 f) 40 2 = 1 ∧ (va_up (va_up (va_up M 40 Q) 51 S2) 41 f) 40 3 = 0) from h0)] at hi
      have hi : irun none zp_116 0 (i_ent [iP 40, iI ((mb g mm : Nat) : Int)] 3) [] (SH b) (va_up (va_up (va_up M 40 Q) 51 S2) 41 f) 0 0 (some 1, SH b, va_up (va_up (va_up (va_up (va_up (va_up M 40 Q) 51 S2) 41 f) 40 (Q1 Q)) 51 (va_up S2 11 (chk S2 0))) 41 (wS f (mb g mm) S2)) := hi
      rw [hw, show va_up (va_up (va_up (va_up (va_up (va_up M 40 Q) 51 S2) 41 f) 40 (Q1 Q)) 51 (va_up S2 11 (chk S2 0))) 41 (wS f (mb g mm) (jn f g (mm : Int))) = va_up (va_up (va_up M 40 (Q1 Q)) 51 (va_up S2 11 (chk S2 0))) 41 (wS f (mb g mm) (jn f g (mm : Int))) by rw [up_sw (c := 41) (d := 40) (by decide), up_sw (c := 41) (d := 51) (by decide), up_up, up_sw (c := 51) (d := 40) (by decide), up_up, up_up]] at hi
      have e : w1m f Q (mb g mm) (jn f g (mm : Int)) = (wS f (mb g mm) (jn f g (mm : Int)), Q1 Q) := by unfold w1m; rw [if_neg h0]
      rw [e] at k1
      have kk := k1 ((Q1_1 h0).trans hq1) (va_up S2 11 (chk S2 0)) ⟨S2, rfl, rfl⟩
      refine i_iload_n rfl rfl ?_
      refine i_iconst (n := 2) rfl (by unfold iR; omega) ?_
      refine i_icmp_ge_f rfl (by first | omega | assumption) ?_
      refine i_iload rfl rfl ?_
      refine i_if_lt_f rfl (by first | omega | assumption) ?_
      refine i_aload_n rfl rfl ?_
      refine i_iload_n rfl rfl ?_
      refine i_iload rfl rfl ?_
      -- at 126
      refine i_call (T := (114, zp_114)) rfl rfl (hj) rfl rfl rfl rfl rfl rfl rfl ?_
      try dsimp only
      refine i_aload_n rfl rfl ?_
      refine i_iload_n rfl rfl ?_
      refine i_iload rfl rfl ?_
      -- at 133
      refine i_call (T := (113, zp_113)) rfl rfl (d_member hg hmm) rfl rfl rfl rfl rfl rfl rfl ?_
      try dsimp only
      refine i_call (T := (116, zp_116)) rfl rfl (hi) rfl rfl rfl rfl rfl rfl rfl ?_
      try dsimp only
      refine i_if_ne_t rfl (by first | omega | assumption) ?_
      -- at 145
      exact kk
  have loop : ∀ (c g : Nat), g + c = 12 → (rpm (M 41) (M 40) g).2.1 1 = 0 → ∀ (l3 l4 l5 l6 : Option iV) (S : Nat → Int), ∃ S', irun none zp_159 14 [some (iP 40), some (iI (rpm (M 41) (M 40) g).2.2), some (iI (g : Int)), l3, l4, l5, l6] [] (SH b) (va_up (va_up (va_up M 40 (rpm (M 41) (M 40) g).2.1) 51 S) 41 (rpm (M 41) (M 40) g).1) 0 0 (some (if (rpm (M 41) (M 40) 12).2.1 1 = 1 then -9 else (rpm (M 41) (M 40) 12).2.2), SH b, va_up (va_up (va_up M 40 (rpm (M 41) (M 40) 12).2.1) 51 S') 41 (rpm (M 41) (M 40) 12).1) := by
    intro c
    induction c with
    | zero =>
      intro g hg hz l3 l4 l5 l6 S
      obtain rfl : g = 12 := by omega
      refine ⟨S, ?_⟩
      rw [if_neg (by omega)]
      refine i_iload_n rfl rfl ?_
      refine i_bipush (n := 12) rfl (by unfold iR; omega) (by decide) ?_
      refine i_icmp_ge_t rfl (by first | omega | assumption) ?_
      refine i_iload_n rfl rfl ?_
      -- at 152
      exact i_ireturn rfl rfl
    | succ c ih =>
      intro g hg hz l3 l4 l5 l6 S
      obtain ⟨i1, i2, i3, i4, i5⟩ := hall g (by omega)
      obtain ⟨j1, j2, j3, j4, j5⟩ := hall (g + 1) (by omega)
      have er : rpm (M 41) (M 40) (g + 1) = ((mgm (rpm (M 41) (M 40) g).1 (rpm (M 41) (M 40) g).2.1 g).1, (mgm (rpm (M 41) (M 40) g).1 (rpm (M 41) (M 40) g).2.1 g).2, (rpm (M 41) (M 40) g).2.2 + (if 1 < nb (rpm (M 41) (M 40) g).1 g then nb (rpm (M 41) (M 40) g).1 g else 0)) := by
        show (if _ then _ else _) = _
        rw [if_neg (by omega)]
      have ihg := fun hz' => ih (g + 1) (by omega) hz'
      have stp : (rpm (M 41) (M 40) (g + 1)).2.1 1 = 1 → rpm (M 41) (M 40) 12 = rpm (M 41) (M 40) (g + 1) := fun h => rpm_stop h (by omega)
      rw [er] at ihg stp j3 j4 j5
      dsimp only at ihg stp j3 j4 j5
      generalize rpm (M 41) (M 40) 12 = R at *
      generalize hrf : (rpm (M 41) (M 40) g).1 = f at *
      generalize hrQ : (rpm (M 41) (M 40) g).2.1 = Q at *
      generalize hrs : (rpm (M 41) (M 40) g).2.2 = stay at *
      have hnb := nbN_b f g 5
      have hnb : 0 ≤ nb f g ∧ nb f g ≤ 5 := hnb
      generalize hSg : (fun j => if j < 12 then f ((48 + g) * 12 + j) else S j) = Sg
      generalize hl6 : (some (iI (bi (f ((48 + g) * 12 + 11) = chk f (48 + g)))) : Option iV) = L6
      have go : ∀ q, irun none zp_159 79 [some (iP 40), some (iI stay), some (iI (g : Int)), some (iI (nb f g)), some (iI (lbN f g 5)), some (iI 5), L6] [] (SH b) (va_up (va_up (va_up M 40 Q) 51 Sg) 41 f) 0 0 q → irun none zp_159 14 [some (iP 40), some (iI stay), some (iI (g : Int)), l3, l4, l5, l6] [] (SH b) (va_up (va_up (va_up M 40 Q) 51 S) 41 f) 0 0 q := by
        intro q kq
        refine i_iload_n rfl rfl ?_
        refine i_bipush (n := 12) rfl (by unfold iR; omega) (by decide) ?_
        refine i_icmp_ge_f rfl (by first | omega | assumption) ?_
        refine i_iconst (n := 0) rfl (by unfold iR; omega) ?_
        refine i_istore_n rfl (Nat.le_of_ble_eq_true rfl) rfl ?_
        refine i_iconst (n := -1) rfl (by unfold iR; omega) ?_
        refine i_istore rfl (Nat.le_of_ble_eq_true rfl) rfl ?_
        refine i_iconst (n := 0) rfl (by unfold iR; omega) ?_
        refine i_istore rfl (Nat.le_of_ble_eq_true rfl) rfl ?_
        -- at 28
        exact inner q g f Q S stay (by omega) i1 (by rw [hSg, hl6]; exact kq) 5 0 rfl l6 S (fun _ _ => rfl) (fun h => by omega) (fun h => by omega)
      by_cases h1n : 1 < nb f g
      · have em : mgm f Q g = (f, Q) := by unfold mgm; rw [if_pos h1n]
        rw [em, if_pos h1n] at ihg
        obtain ⟨S', hS'⟩ := ihg hz (some (iI (nb f g))) (some (iI (lbN f g 5))) (some (iI 5)) L6 Sg
        refine ⟨S', go _ ?_⟩
        have hlb := lb_b f g 5
        refine i_iload_n rfl rfl ?_
        refine i_iconst (n := 1) rfl (by unfold iR; omega) ?_
        refine i_icmp_le_f rfl (by first | omega | assumption) ?_
        refine i_iload_n rfl rfl ?_
        refine i_iload_n rfl rfl ?_
        refine i_iadd rfl (by unfold iR; omega) ?_
        refine i_goto rfl ?_
        refine i_istore_n rfl (Nat.le_of_ble_eq_true rfl) rfl ?_
        refine i_iload_n rfl rfl ?_
        refine i_if_ne_t rfl (by first | omega | assumption) ?_
        refine i_iload rfl rfl ?_
        refine i_istore rfl (Nat.le_of_ble_eq_true rfl) rfl ?_
        refine i_iload_n rfl rfl ?_
        refine i_iconst (n := 2) rfl (by unfold iR; omega) ?_
        refine i_icmp_ge_t rfl (by first | omega | assumption) ?_
        refine i_iinc rfl rfl (by unfold iR; omega) (Nat.le_of_ble_eq_true rfl) rfl ?_
        refine i_goto rfl ?_
        -- at 14
        exact hS'
      · rw [if_neg h1n, Int.add_zero] at ihg
        by_cases h2n : nb f g = 1
        · have em : mgm f Q g = w1m f Q (mb g (fb f g)) (jn f g ((fb f g : Nat) : Int)) := by unfold mgm; rw [if_neg h1n, if_pos h2n]
          rw [em] at ihg stp j5
          have elb := lb_1 h2n
          rcases j5 with j5 | j5
          · obtain ⟨S', hS'⟩ := ihg j5 (some (iI (nb f g))) (some (iI ((fb f g : Nat) : Int))) (some (iI 5)) L6 (va_up (fun k => if k < 11 then jn f g ((fb f g : Nat) : Int) k else Sg k) 11 (chk (fun k => if k < 11 then jn f g ((fb f g : Nat) : Int) k else Sg k) 0))
            refine ⟨S', go _ ?_⟩
            rw [elb]
            refine i_iload_n rfl rfl ?_
            refine i_iconst (n := 1) rfl (by unfold iR; omega) ?_
            refine i_icmp_le_t rfl (by first | omega | assumption) ?_
            refine i_iload_n rfl rfl ?_
            refine i_istore_n rfl (Nat.le_of_ble_eq_true rfl) rfl ?_
            refine i_iload_n rfl rfl ?_
            refine i_if_ne_t rfl (by first | omega | assumption) ?_
            refine i_iload rfl rfl ?_
            refine i_istore rfl (Nat.le_of_ble_eq_true rfl) rfl ?_
            -- at 112
            refine tail _ g (fb f g) f Q Sg stay (nb f g) L6 (by omega) (fb_b _ _) i1 i2 hz (by omega) (by unfold iR; omega) (fun _ S2 hS2 => ?_) (fun h => by omega)
            obtain ⟨S3, rfl, rfl⟩ := hS2
            refine i_iinc rfl rfl (by unfold iR; omega) (Nat.le_of_ble_eq_true rfl) rfl ?_
            refine i_goto rfl ?_
            -- at 14
            exact hS'
          · refine ⟨fun k => if k < 11 then jn f g ((fb f g : Nat) : Int) k else Sg k, go _ ?_⟩
            rw [stp j5]
            try dsimp only
            rw [if_pos j5, elb]
            refine i_iload_n rfl rfl ?_
            refine i_iconst (n := 1) rfl (by unfold iR; omega) ?_
            refine i_icmp_le_t rfl (by first | omega | assumption) ?_
            refine i_iload_n rfl rfl ?_
            refine i_istore_n rfl (Nat.le_of_ble_eq_true rfl) rfl ?_
            refine i_iload_n rfl rfl ?_
            refine i_if_ne_t rfl (by first | omega | assumption) ?_
            refine i_iload rfl rfl ?_
            refine i_istore rfl (Nat.le_of_ble_eq_true rfl) rfl ?_
            -- at 112
            exact tail _ g (fb f g) f Q Sg stay (nb f g) L6 (by omega) (fb_b _ _) i1 i2 hz (by omega) (by unfold iR; omega) (fun h => by omega) (fun _ => rfl)
        · have h3n : nb f g = 0 := by omega
          obtain ⟨elb, hgd⟩ := lb_0 h3n
          obtain ⟨SJ, hij⟩ := d_isJoined (b := b) (M := va_up (va_up (va_up M 40 Q) 51 Sg) 41 f) (g := g) (by omega) i1 hgd
          have hij : irun none zp_158 0 (i_ent [iP 40, iI (g : Int)] 4) [] (SH b) (va_up (va_up (va_up M 40 Q) 51 Sg) 41 f) 0 0 (some (eqN f (jn f g 4) (48 + g) 11), SH b, va_up (va_up (va_up (va_up M 40 Q) 51 Sg) 41 f) 51 SJ) := hij
          rw [show va_up (va_up (va_up (va_up M 40 Q) 51 Sg) 41 f) 51 SJ = va_up (va_up (va_up M 40 Q) 51 SJ) 41 f by rw [up_sw (c := 41) (d := 51) (by decide), up_up]] at hij
          rcases eqN_01 f (jn f g 4) (48 + g) 11 with he | he
          · have em : mgm f Q g = w1m f Q (mb g 4) (jn f g ((4 : Nat) : Int)) := by unfold mgm; rw [if_neg h1n, if_neg h2n, if_neg (by omega)]; rfl
            rw [em] at ihg stp j5
            rcases j5 with j5 | j5
            · obtain ⟨S', hS'⟩ := ihg j5 (some (iI (nb f g))) (some (iI ((4 : Nat) : Int))) (some (iI 5)) L6 (va_up (fun k => if k < 11 then jn f g ((4 : Nat) : Int) k else SJ k) 11 (chk (fun k => if k < 11 then jn f g ((4 : Nat) : Int) k else SJ k) 0))
              refine ⟨S', go _ ?_⟩
              rw [elb]
              refine i_iload_n rfl rfl ?_
              refine i_iconst (n := 1) rfl (by unfold iR; omega) ?_
              refine i_icmp_le_t rfl (by first | omega | assumption) ?_
              refine i_iload_n rfl rfl ?_
              refine i_istore_n rfl (Nat.le_of_ble_eq_true rfl) rfl ?_
              refine i_iload_n rfl rfl ?_
              refine i_if_ne_f rfl (by first | omega | assumption) ?_
              refine i_aload_n rfl rfl ?_
              refine i_iload_n rfl rfl ?_
              -- at 98
              refine i_call (T := (158, zp_158)) rfl rfl (hij) rfl rfl rfl rfl rfl rfl rfl ?_
              try dsimp only
              rw [he]
              refine i_if_ne_f rfl (by first | omega | assumption) ?_
              refine i_iconst (n := 4) rfl (by unfold iR; omega) ?_
              refine i_goto rfl ?_
              refine i_istore rfl (Nat.le_of_ble_eq_true rfl) rfl ?_
              -- at 112
              refine tail _ g 4 f Q SJ stay (nb f g) L6 (by omega) (by decide) i1 i2 hz (by omega) (by unfold iR; omega) (fun _ S2 hS2 => ?_) (fun h => by omega)
              obtain ⟨S3, rfl, rfl⟩ := hS2
              refine i_iinc rfl rfl (by unfold iR; omega) (Nat.le_of_ble_eq_true rfl) rfl ?_
              refine i_goto rfl ?_
              -- at 14
              exact hS'
            · refine ⟨fun k => if k < 11 then jn f g ((4 : Nat) : Int) k else SJ k, go _ ?_⟩
              rw [stp j5]
              try dsimp only
              rw [if_pos j5, elb]
              refine i_iload_n rfl rfl ?_
              refine i_iconst (n := 1) rfl (by unfold iR; omega) ?_
              refine i_icmp_le_t rfl (by first | omega | assumption) ?_
              refine i_iload_n rfl rfl ?_
              refine i_istore_n rfl (Nat.le_of_ble_eq_true rfl) rfl ?_
              refine i_iload_n rfl rfl ?_
              refine i_if_ne_f rfl (by first | omega | assumption) ?_
              refine i_aload_n rfl rfl ?_
              refine i_iload_n rfl rfl ?_
              -- at 98
              refine i_call (T := (158, zp_158)) rfl rfl (hij) rfl rfl rfl rfl rfl rfl rfl ?_
              try dsimp only
              rw [he]
              refine i_if_ne_f rfl (by first | omega | assumption) ?_
              refine i_iconst (n := 4) rfl (by unfold iR; omega) ?_
              refine i_goto rfl ?_
              refine i_istore rfl (Nat.le_of_ble_eq_true rfl) rfl ?_
              -- at 112
              exact tail _ g 4 f Q SJ stay (nb f g) L6 (by omega) (by decide) i1 i2 hz (by omega) (by unfold iR; omega) (fun h => by omega) (fun _ => rfl)
          · have em : mgm f Q g = (f, Q) := by unfold mgm; rw [if_neg h1n, if_neg h2n, if_pos he]
            rw [em] at ihg
            obtain ⟨S', hS'⟩ := ihg hz (some (iI (nb f g))) (some (iI (-1))) (some (iI 5)) L6 SJ
            refine ⟨S', go _ ?_⟩
            rw [elb]
            refine i_iload_n rfl rfl ?_
            refine i_iconst (n := 1) rfl (by unfold iR; omega) ?_
            refine i_icmp_le_t rfl (by first | omega | assumption) ?_
            refine i_iload_n rfl rfl ?_
            refine i_istore_n rfl (Nat.le_of_ble_eq_true rfl) rfl ?_
            refine i_iload_n rfl rfl ?_
            refine i_if_ne_f rfl (by first | omega | assumption) ?_
            refine i_aload_n rfl rfl ?_
            refine i_iload_n rfl rfl ?_
            -- at 98
            refine i_call (T := (158, zp_158)) rfl rfl (hij) rfl rfl rfl rfl rfl rfl rfl ?_
            try dsimp only
            rw [he]
            refine i_if_ne_t rfl (by first | omega | assumption) ?_
            refine i_iload rfl rfl ?_
            refine i_istore rfl (Nat.le_of_ble_eq_true rfl) rfl ?_
            refine i_iload_n rfl rfl ?_
            refine i_iconst (n := 2) rfl (by unfold iR; omega) ?_
            refine i_icmp_ge_f rfl (by first | omega | assumption) ?_
            refine i_iload rfl rfl ?_
            refine i_if_lt_t rfl (by first | omega | assumption) ?_
            refine i_iinc rfl rfl (by unfold iR; omega) (Nat.le_of_ble_eq_true rfl) rfl ?_
            refine i_goto rfl ?_
            -- at 14
            exact hS'
  obtain ⟨S, h⟩ := loop 12 0 rfl h1 none none none none (M 51)
  refine ⟨S, ?_⟩
  have h : irun none zp_159 14 [some (iP 40), some (iI 0), some (iI ((0 : Nat) : Int)), none, none, none, none] [] (SH b) (va_up (va_up (va_up M 40 (M 40)) 51 (M 51)) 41 (M 41)) 0 0 _ := h
  rw [up_id M 40 rfl, up_id M 51 rfl, up_id M 41 rfl] at h
  refine i_aload_n rfl rfl ?_
  refine i_getf rfl rfl rfl rfl (by decide) ?_
  refine i_if_eq_t rfl (by first | omega | assumption) ?_
  refine i_iconst (n := 0) rfl (by unfold iR; omega) ?_
  refine i_istore_n rfl (Nat.le_of_ble_eq_true rfl) rfl ?_
  refine i_iconst (n := 0) rfl (by unfold iR; omega) ?_
  refine i_istore_n rfl (Nat.le_of_ble_eq_true rfl) rfl ?_
  -- at 14
  exact h
set_option maxRecDepth 100000 in
theorem o_repair {w : Int} {b : Bool} {M : iM} (h : Inv w b M) (hw : w < 700000000) : Op w b M zp_10 zp_159 [] := by
  have hi := h
  obtain ⟨⟨f1, f2, f3⟩, ⟨a1, a2, a3, a4, a5, a6, a7, a8⟩, h3, h4, h5, h6, h7, h8⟩ := hi
  have ef : M 2 = M 41 := funext f2
  rcases a1 with a1 | a1
  · have hR : Rl (M 1) (M 40) := ⟨Or.inl a1, a2, a3, a4, a5, a6⟩
    have hO : Oo (M 1) w := ⟨by
      rw [a6]
      split <;> omega, a7, a8⟩
    have hf2 : by8 (M 2) 720 := by rw [ef]; exact f1
    obtain ⟨J, hx⟩ := c_repair (b := b) (M := M) hO (by omega) a1 hf2 f3
    have hrr := rp_r (f := M 41) hR
    have hrp := rp_ok hO f1 a1
    rw [ef] at hx
    have hall : ∀ g, g ≤ 12 → by8 (rpm (M 41) (M 40) g).1 720 ∧ Qq (rpm (M 41) (M 40) g).2.1 ∧ 0 ≤ (rpm (M 41) (M 40) g).2.2 ∧ (rpm (M 41) (M 40) g).2.2 ≤ 5 * g ∧ ((rpm (M 41) (M 40) g).2.1 1 = 0 ∨ (rpm (M 41) (M 40) g).2.1 1 = 1) := by
      intro g hg
      obtain ⟨q1, q2, q3, q4⟩ := hrr g
      obtain ⟨p1, p2, p3, p4, p5⟩ := hrp g hg
      rw [q1, q4]
      exact ⟨p1, Rl_q q2, p4, p5, by rw [q2.2.1]; exact p3⟩
    obtain ⟨q1, q2, q3, q4⟩ := hrr 12
    obtain ⟨p1, p2, p3, p4, p5⟩ := hrp 12 (Nat.le_refl _)
    obtain ⟨S, hy⟩ := d_repair (b := b) (M := va_up (va_up (va_up M 1 (rp (M 41) (M 1) 12).2.1) 2 (rp (M 41) (M 1) 12).1) 4 J) (O := M 1) hR (a2.trans a1) f1 hall
    have hy : irun none zp_159 0 (i_ent [iP 40] 7) [] (SH b) (va_up (va_up (va_up M 1 (rp (M 41) (M 1) 12).2.1) 2 (rp (M 41) (M 1) 12).1) 4 J) 0 0 (some (if (rpm (M 41) (M 40) 12).2.1 1 = 1 then -9 else (rpm (M 41) (M 40) 12).2.2), SH b, va_up (va_up (va_up (va_up (va_up (va_up M 1 (rp (M 41) (M 1) 12).2.1) 2 (rp (M 41) (M 1) 12).1) 4 J) 40 (rpm (M 41) (M 40) 12).2.1) 51 S) 41 (rpm (M 41) (M 40) 12).1) := hy
    rw [q4, show (rpm (M 41) (M 40) 12).2.1 1 = (rp (M 41) (M 1) 12).2.1 4 from q2.2.1, q1] at hy
    refine ⟨_, b, _, _, hx, hy, ?_⟩
    generalize (rp (M 41) (M 1) 12).1 = f at *
    generalize (rp (M 41) (M 1) 12).2.1 = O at *
    generalize (rpm (M 41) (M 40) 12).2.1 = Q at *
    have hq : ∀ k, 3 < k → Q k = M 40 k := q3
    obtain ⟨r1, r2, r3, r4, r5, r6⟩ := q2
    have e6 := hq 6 (by decide)
    have e7 := hq 7 (by decide)
    have e8 := hq 8 (by decide)
    refine ⟨⟨p1, fun _ => rfl, f3⟩, ⟨r1, r2, r3, r4, r5, r6, p2.2.1, ?_⟩, ?_, ?_, ?_, ?_, ?_, ?_⟩
    · have := p2.2.2
      show O 5 ≤ _
      omega
    · obtain ⟨u1, u2, u3, u4, u5, u6, u7, u8⟩ := h3
      rw [← e8] at u6
      rw [← e6] at u7
      rw [← e7] at u8
      cases b <;> exact ⟨u1, u2, u3, u4, u5, u6, u7, u8⟩
    · obtain ⟨u1, u2⟩ := h4
      rw [← hq 9 (by decide)] at u1
      exact ⟨u1, u2⟩
    · obtain ⟨u1, u2⟩ := h5
      rw [← hq 12 (by decide)] at u1
      exact ⟨u1, u2⟩
    · obtain ⟨u1, u2, u3, u4⟩ := h6
      rw [← hq 13 (by decide)] at u1
      rw [← hq 14 (by decide)] at u2
      exact ⟨u1, u2, u3, u4⟩
    · obtain ⟨u1, u2⟩ := h7
      rw [← hq 15 (by decide)] at u1
      cases b <;> exact ⟨u1, u2⟩
    · obtain ⟨u1, u2⟩ := h8
      rw [← hq 41 (by decide)] at u1
      exact ⟨u1, u2⟩
  · refine ⟨-9, b, M, M, ?_, ?_, Inv_w h (by omega)⟩
    · refine i_aload_n rfl rfl ?_
      refine i_getr rfl rfl rfl rfl (by decide) rfl ?_
      -- at 4
      refine i_call (T := (34, zp_34)) rfl rfl (c_isStopped (Or.inr a1)) rfl rfl rfl rfl rfl rfl rfl ?_
      try dsimp only
      show irun none zp_10 7 _ [iI (M 1 4)] _ _ 0 0 _
      refine i_if_eq_f rfl (by first | omega | assumption) ?_
      refine i_bipush (n := -9) rfl (by unfold iR; omega) (by decide) ?_
      -- at 12
      exact i_ireturn rfl rfl
    · refine i_aload_n rfl rfl ?_
      refine i_getf rfl rfl rfl rfl (by decide) ?_
      refine i_if_eq_f rfl (by first | omega | assumption) ?_
      refine i_bipush (n := -9) rfl (by unfold iR; omega) (by decide) ?_
      -- at 9
      exact i_ireturn rfl rfl
