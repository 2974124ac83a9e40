abbrev gd (f : Nat → Int) (s : Nat) : Prop := f (s * 12 + 11) = chk f s
theorem bi01 (p : Prop) [Decidable p] : bi p = 0 ∨ bi p = 1 := by
  unfold bi
  split
  · exact Or.inr rfl
  · exact Or.inl rfl
theorem bi_t {p : Prop} [Decidable p] (h : p) : bi p = 1 := by unfold bi; rw [if_pos h]
theorem bi_f {p : Prop} [Decidable p] (h : ¬ p) : bi p = 0 := by unfold bi; rw [if_neg h]
set_option maxRecDepth 100000 in
theorem c_afill {sh : List zS} {M : iM} {p n : Nat} {rs : List (Option Nat)} {v : Int} (hs : z_at sh p = some (1, n, rs)) (hp : ¬ p = 1000000) (hL : (n : Int) < 2147483648) : irun none zp_166 0 (i_ent [iP p, iI v] 4) [] sh M 0 0 (none, sh, va_up M p (fun k => if k < n then v else M p k)) := by
  have loop : ∀ (c k : Nat), k + c = n → irun none zp_166 5 [some (iP p), some (iI v), some (iI (k : Int)), some (iI (n : Int))] [] sh (va_up M p (fun j => if j < k then v else M p j)) 0 0 (none, sh, va_up M p (fun k => if k < n then v else M p k)) := by
    intro c
    induction c with
    | zero =>
      intro k hk
      obtain rfl : k = n := by omega
      refine i_iload_n rfl rfl ?_
      refine i_iload_n rfl rfl ?_
      refine i_icmp_ge_t rfl (by first | omega | assumption) ?_
      -- at 20
      exact i_vreturn rfl rfl
    | succ c ih =>
      intro k hk
      have hn := ih (k + 1) (by omega)
      refine i_iload_n rfl rfl ?_
      refine i_iload_n rfl rfl ?_
      refine i_icmp_ge_f rfl (by first | omega | assumption) ?_
      refine i_aload_n rfl rfl ?_
      refine i_iload_n rfl rfl ?_
      refine i_iload_n rfl rfl ?_
      refine i_iast rfl (by assumption) (by first | omega | assumption) (by first | omega | assumption) ?_
      refine i_iinc rfl rfl (by unfold iR; omega) (Nat.le_of_ble_eq_true rfl) rfl ?_
      refine i_goto rfl ?_
      -- at 5
      rw [st_up (g := fun j => if j < k + 1 then v else M p j)]
      · exact hn
      · funext j
        show (if j = (k : Int).toNat then v else if j < k then _ else _) = _
        rw [show (k : Int).toNat = k by omega]
        by_cases h1 : j = k
        · subst h1
          rw [if_pos rfl, if_pos (by omega)]
        · rw [if_neg h1]
          by_cases h2 : j < k
          · rw [if_pos h2, if_pos (by omega)]
          · rw [if_neg h2, if_neg (by omega)]
  refine i_iconst (n := 0) rfl (by unfold iR; omega) ?_
  refine i_istore_n rfl (Nat.le_of_ble_eq_true rfl) rfl ?_
  refine i_aload_n rfl rfl ?_
  refine i_alen rfl (by assumption) (by omega) (by first | decide | assumption) ?_
  refine i_istore_n rfl (Nat.le_of_ble_eq_true rfl) rfl ?_
  -- at 5
  have h0 := loop n 0 (by omega)
  rw [up_id M p (f := fun j => if j < 0 then v else M p j) (by funext j; rw [if_neg (by omega)])] at h0
  exact h0
theorem up_c {M : iM} {c : Nat} {f g : Nat → Int} (h : f = g) : va_up M c f = va_up M c g := by rw [h]
set_option maxRecDepth 100000 in
theorem c_joinOthers {b : Bool} {M : iM} {g : Nat} {lo : Int} (hg : g < 12) (hlo : iR lo) (hf : by8 (M 2) 720) : irun none zp_42 0 (i_ent [iP 1, iI (g : Int), iI lo] 6) [] (SH b) M 0 0 (none, SH b, va_up M 4 (fun k => if k < 11 then jn (M 2) g lo k else M 4 k)) := by
  have inner : ∀ (q : Option Int × List zS × iM) (m : Nat), m < 5 → ¬ (m : Int) = lo → irun none zp_42 61 [some (iP 1), some (iI (g : Int)), some (iI lo), some (iI (m : Int)), some (iI (mb g m : Int)), some (iI 11)] [] (SH b) (va_up M 4 (fun k => if k < 11 then jo (M 2) g lo k (m + 1) else M 4 k)) 0 0 q →
      ∀ (n p : Nat), p + n = 11 → irun none zp_42 30 [some (iP 1), some (iI (g : Int)), some (iI lo), some (iI (m : Int)), some (iI (mb g m : Int)), some (iI (p : Int))] [] (SH b) (va_up M 4 (fun k => if k < 11 then (if k < p then jo (M 2) g lo k (m + 1) else jo (M 2) g lo k m) else M 4 k)) 0 0 q := by
    intro q m hm hne k n
    induction n with
    | zero =>
      intro p hp
      obtain rfl : p = 11 := by omega
      refine i_iload rfl rfl ?_
      refine i_bipush (n := 11) rfl (by unfold iR; omega) (by decide) ?_
      refine i_icmp_ge_t rfl (by first | omega | assumption) ?_
      -- at 61
      rw [up_c (g := fun k => if k < 11 then jo (M 2) g lo k (m + 1) else M 4 k)]
      · exact k
      · funext j
        by_cases h1 : j < 11
        · rw [if_pos h1, if_pos h1, if_pos h1]
        · rw [if_neg h1, if_neg h1]
    | succ n ih =>
      intro p hp
      have hn := ih (p + 1) (by omega)
      have h1 := jo_b (lo := lo) hf hg (show p < 12 by omega) m (by omega)
      have hb := mb_b hg hm
      have h2 := hf (mb g m * 12 + p) (by omega)
      have e : jo (M 2) g lo p (m + 1) = ix (jo (M 2) g lo p m) (M 2 (mb g m * 12 + p)) := by
        show (if (m : Int) = lo then _ else _) = _
        rw [if_neg hne]
      refine i_iload rfl rfl ?_
      refine i_bipush (n := 11) rfl (by unfold iR; omega) (by decide) ?_
      refine i_icmp_ge_f rfl (by first | omega | assumption) ?_
      refine i_aload_n rfl rfl ?_
      refine i_getr rfl rfl rfl rfl (by decide) rfl ?_
      refine i_iload rfl rfl ?_
      refine i_dup2 rfl ?_
      refine i_iald rfl rfl (by first | omega | assumption) (by first | omega | assumption) (by decide) ?_
      refine i_aload_n rfl rfl ?_
      refine i_iload rfl rfl ?_
      refine i_iload rfl rfl ?_
      -- at 50
      have e2 : (va_up M 4 (fun k => if k < 11 then (if k < p then jo (M 2) g lo k (m + 1) else jo (M 2) g lo k m) else M 4 k)) 4 ((p : Int)).toNat = jo (M 2) g lo p m := by
        show (if ((p : Int)).toNat < 11 then (if ((p : Int)).toNat < p then _ else jo (M 2) g lo ((p : Int)).toNat m) else _) = _
        rw [show ((p : Int)).toNat = p by omega, if_pos (by omega), if_neg (by omega)]
      rw [e2]
      refine i_call (T := (32, zp_32)) rfl rfl (c_cell (s := mb g m) (p := p) hb (by omega)) rfl rfl rfl rfl rfl rfl rfl ?_
      try dsimp only
      show irun none zp_42 53 _ [iI (M 2 (mb g m * 12 + p)), iI (jo (M 2) g lo p m), iI (p : Int), iP 4] _ _ 0 0 _
      refine i_ixor rfl (by first | omega | assumption) (by first | omega | assumption) ?_
      refine i_iast rfl rfl (by first | omega | assumption) (by first | omega | assumption) ?_
      refine i_iinc rfl rfl (by unfold iR; omega) (Nat.le_of_ble_eq_true rfl) rfl ?_
      refine i_goto rfl ?_
      -- at 30
      rw [st_up (g := fun k => if k < 11 then (if k < p + 1 then jo (M 2) g lo k (m + 1) else jo (M 2) g lo k m) else M 4 k)]
      · exact hn
      · funext j
        show (if j = (p : Int).toNat then ix (jo (M 2) g lo p m) (M 2 (mb g m * 12 + p)) else _) = _
        rw [show (p : Int).toNat = p by omega, ← e]
        dsimp only
        by_cases h3 : j = p
        · subst h3
          rw [if_pos rfl, if_pos (by omega), if_pos (by omega)]
        · rw [if_neg h3]
          by_cases h4 : j < 11
          · rw [if_pos h4, if_pos h4]
            by_cases h5 : j < p
            · rw [if_pos h5, if_pos (by omega)]
            · rw [if_neg h5, if_neg (by omega)]
          · rw [if_neg h4, if_neg h4]
  have loop : ∀ (n m : Nat), m + n = 5 → ∀ (l4 l5 : Option iV), (∀ w, l4 ≠ some (iL w)) → irun none zp_42 10 [some (iP 1), some (iI (g : Int)), some (iI lo), some (iI (m : Int)), l4, l5] [] (SH b) (va_up M 4 (fun k => if k < 11 then jo (M 2) g lo k m else M 4 k)) 0 0 (none, SH b, va_up M 4 (fun k => if k < 11 then jn (M 2) g lo k else M 4 k)) := by
    intro n
    induction n with
    | zero =>
      intro m hm l4 l5 _
      obtain rfl : m = 5 := by omega
      refine i_iload_n rfl rfl ?_
      refine i_iconst (n := 4) rfl (by unfold iR; omega) ?_
      refine i_icmp_gt_t rfl (by first | omega | assumption) ?_
      -- at 67
      exact i_vreturn rfl rfl
    | succ n ih =>
      intro m hm l4 l5 h4
      have hn := ih (m + 1) (by omega)
      by_cases hc : (m : Int) = lo
      · refine i_iload_n rfl rfl ?_
        refine i_iconst (n := 4) rfl (by unfold iR; omega) ?_
        refine i_icmp_gt_f rfl (by first | omega | assumption) ?_
        refine i_iload_n rfl rfl ?_
        refine i_iload_n rfl rfl ?_
        refine i_icmp_eq_t rfl (by first | omega | assumption) ?_
        refine i_iinc rfl rfl (by unfold iR; omega) (Nat.le_of_ble_eq_true rfl) rfl ?_
        refine i_goto rfl ?_
        -- at 10
        rw [up_c (g := fun k => if k < 11 then jo (M 2) g lo k (m + 1) else M 4 k)]
        · exact hn _ _ h4
        · funext j
          by_cases h1 : j < 11
          · rw [if_pos h1, if_pos h1]
            show _ = (if (m : Int) = lo then _ else _)
            rw [if_pos hc]
          · rw [if_neg h1, if_neg h1]
      · refine i_iload_n rfl rfl ?_
        refine i_iconst (n := 4) rfl (by unfold iR; omega) ?_
        refine i_icmp_gt_f rfl (by first | omega | assumption) ?_
        refine i_iload_n rfl rfl ?_
        refine i_iload_n rfl rfl ?_
        refine i_icmp_eq_f rfl (by first | omega | assumption) ?_
        refine i_iload_n rfl rfl ?_
        refine i_iload_n rfl rfl ?_
        -- at 22
        refine i_call (T := (41, zp_41)) rfl rfl (c_sectorOf hg (show m < 5 by omega)) rfl rfl rfl rfl rfl rfl rfl ?_
        try dsimp only
        refine i_istore rfl (Nat.le_of_ble_eq_true rfl) rfl ?_
        refine i_iconst (n := 0) rfl (by unfold iR; omega) ?_
        refine i_istore rfl (Nat.le_of_ble_eq_true rfl) rfl ?_
        -- at 30
        have hi := inner (none, SH b, va_up M 4 (fun k => if k < 11 then jn (M 2) g lo k else M 4 k)) m (by omega) hc ?_ 11 0 rfl
        · rw [up_c (g := fun k => if k < 11 then (if k < 0 then jo (M 2) g lo k (m + 1) else jo (M 2) g lo k m) else M 4 k)]
          · exact hi
          · funext j
            by_cases h1 : j < 11
            · rw [if_pos h1, if_pos h1, if_neg (by omega)]
            · rw [if_neg h1, if_neg h1]
        · refine i_iinc rfl rfl (by unfold iR; omega) (Nat.le_of_ble_eq_true rfl) rfl ?_
          refine i_goto rfl ?_
          -- at 10
          exact hn _ _ (fun w h => by cases h)
  refine i_aload_n rfl rfl ?_
  refine i_getr rfl rfl rfl rfl (by decide) rfl ?_
  refine i_iconst (n := 0) rfl (by unfold iR; omega) ?_
  -- at 5
  refine i_call (T := (166, zp_166)) rfl rfl (c_afill (p := 4) (n := 11) (rs := []) rfl (by decide) (by decide)) rfl rfl rfl rfl rfl rfl rfl ?_
  try dsimp only
  refine i_iconst (n := 0) rfl (by unfold iR; omega) ?_
  refine i_istore_n rfl (Nat.le_of_ble_eq_true rfl) rfl ?_
  -- at 10
  have h0 := loop 5 0 rfl none none (fun w h => by cases h)
  exact h0
def nbN (f : Nat → Int) (g : Nat) : Nat → Int
  | 0 => 0
  | m + 1 => nbN f g m + (if f (mb g m * 12 + 11) = chk f (mb g m) then 0 else 1)
def nb (f : Nat → Int) (g : Nat) : Int := nbN f g 5
theorem nbN_b (f : Nat → Int) (g m : Nat) : 0 ≤ nbN f g m ∧ nbN f g m ≤ m := by
  induction m with
  | zero => unfold nbN; omega
  | succ m ih =>
    unfold nbN
    split <;> omega
set_option maxRecDepth 100000 in
theorem c_countBad {b : Bool} {M : iM} {g : Nat} (hg : g < 12) (hf : by8 (M 2) 720) (hm : ∀ x : Nat, x < 256 → M 3 x = hN 8 (x : Int)) : irun none zp_44 0 (i_ent [iP 1, iI (g : Int)] 4) [] (SH b) M 0 0 (some (nb (M 2) g), SH b, M) := by
  have loop : ∀ (n m : Nat), m + n = 5 → irun none zp_44 4 [some (iP 1), some (iI (g : Int)), some (iI (nbN (M 2) g m)), some (iI (m : Int))] [] (SH b) M 0 0 (some (nb (M 2) g), SH b, M) := by
    intro n
    induction n with
    | zero =>
      intro m hm
      obtain rfl : m = 5 := by omega
      refine i_iload_n rfl rfl ?_
      refine i_iconst (n := 4) rfl (by unfold iR; omega) ?_
      refine i_icmp_gt_t rfl (by first | omega | assumption) ?_
      refine i_iload_n rfl rfl ?_
      -- at 36
      exact i_ireturn rfl rfl
    | succ n ih =>
      intro m hm5
      have hn := ih (m + 1) (by omega)
      have hbn := nbN_b (M 2) g m
      refine i_iload_n rfl rfl ?_
      refine i_iconst (n := 4) rfl (by unfold iR; omega) ?_
      refine i_icmp_gt_f rfl (by first | omega | assumption) ?_
      refine i_iload_n rfl rfl ?_
      refine i_aload_n rfl rfl ?_
      refine i_iload_n rfl rfl ?_
      refine i_iload_n rfl rfl ?_
      -- at 13
      refine i_call (T := (41, zp_41)) rfl rfl (c_sectorOf hg (show m < 5 by omega)) rfl rfl rfl rfl rfl rfl rfl ?_
      try dsimp only
      -- at 16
      refine i_call (T := (40, zp_40)) rfl rfl (c_isGood (mb_b hg (show m < 5 by omega)) hf hm) rfl rfl rfl rfl rfl rfl rfl ?_
      try dsimp only
      by_cases h : M 2 (mb g m * 12 + 11) = chk (M 2) (mb g m)
      · have e : nbN (M 2) g (m + 1) = nbN (M 2) g m + 0 := by
          show nbN (M 2) g m + (if _ then 0 else 1) = _
          rw [if_pos h]
        rw [e] at hn
        show irun none zp_44 19 _ [iI (bi _), iI _] _ _ 0 0 _
        rw [bi_t h]
        refine i_if_eq_f rfl (by first | omega | assumption) ?_
        refine i_iconst (n := 0) rfl (by unfold iR; omega) ?_
        refine i_goto rfl ?_
        refine i_iadd rfl (by unfold iR; omega) ?_
        refine i_istore_n rfl (Nat.le_of_ble_eq_true rfl) rfl ?_
        refine i_iinc rfl rfl (by unfold iR; omega) (Nat.le_of_ble_eq_true rfl) rfl ?_
        refine i_goto rfl ?_
        -- at 4
        exact hn
      · have e : nbN (M 2) g (m + 1) = nbN (M 2) g m + 1 := by
          show nbN (M 2) g m + (if _ then 0 else 1) = _
          rw [if_neg h]
        rw [e] at hn
        show irun none zp_44 19 _ [iI (bi _), iI _] _ _ 0 0 _
        rw [bi_f h]
        refine i_if_eq_t rfl (by first | omega | assumption) ?_
        refine i_iconst (n := 1) rfl (by unfold iR; omega) ?_
        refine i_iadd rfl (by unfold iR; omega) ?_
        refine i_istore_n rfl (Nat.le_of_ble_eq_true rfl) rfl ?_
        refine i_iinc rfl rfl (by unfold iR; omega) (Nat.le_of_ble_eq_true rfl) rfl ?_
        refine i_goto rfl ?_
        -- at 4
        exact hn
  refine i_iconst (n := 0) rfl (by unfold iR; omega) ?_
  refine i_istore_n rfl (Nat.le_of_ble_eq_true rfl) rfl ?_
  refine i_iconst (n := 0) rfl (by unfold iR; omega) ?_
  refine i_istore_n rfl (Nat.le_of_ble_eq_true rfl) rfl ?_
  -- at 4
  exact loop 5 0 rfl

