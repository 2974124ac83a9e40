theorem nb_5 (f : Nat → Int) (g : Nat) : nb f g = (if gd f (g * 4) then 0 else 1) + (if gd f (g * 4 + 1) then 0 else 1) + (if gd f (g * 4 + 2) then 0 else 1) + (if gd f (g * 4 + 3) then 0 else 1) + (if gd f (48 + g) then 0 else 1) := by
  simp only [nb, nbN, mb, gd]
  simp
theorem nb_iff {f : Nat → Int} {s : Nat} (hs : s < 48) (hb : ¬ gd f s) : nb f (s / 4) ≤ 1 ↔ ∀ m, m < 5 → mb (s / 4) m ≠ s → gd f (mb (s / 4) m) := by
  have h4 : s = s / 4 * 4 ∨ s = s / 4 * 4 + 1 ∨ s = s / 4 * 4 + 2 ∨ s = s / 4 * 4 + 3 := by omega
  rw [nb_5]
  generalize hg : s / 4 = g at *
  have hg' : g < 12 := by omega
  constructor
  · intro h m hm hne
    rcases (show m = 0 ∨ m = 1 ∨ m = 2 ∨ m = 3 ∨ m = 4 by omega) with rfl | rfl | rfl | rfl | rfl <;> rcases h4 with e | e | e | e <;> simp [mb] at hne ⊢ <;> rw [e] at hb <;> first | (exact absurd e.symm hne) | (grind)
  · intro h
    have a0 := h 0 (by decide)
    have a1 := h 1 (by decide)
    have a2 := h 2 (by decide)
    have a3 := h 3 (by decide)
    have a4 := h 4 (by decide)
    simp [mb] at a0 a1 a2 a3 a4
    rcases h4 with e | e | e | e <;> grind
def rd (f : Nat → Int) (s k : Nat) : Int := if f (s * 12 + 11) = chk f s then f (s * 12 + k) else jn f (s / 4) ((s % 4 : Nat) : Int) k
def rk (f : Nat → Int) (s : Nat) : Int := if f (s * 12 + 11) = chk f s then 1 else if nb f (s / 4) ≤ 1 then 1 else 0
theorem rd_b {f : Nat → Int} {s k : Nat} (hf : by8 f 720) (hs : s < 48) (hk : k < 11) : 0 ≤ rd f s k ∧ rd f s k < 256 := by
  unfold rd
  split
  · exact hf _ (by omega)
  · exact jn_b hf (by omega) (by omega)
theorem cp_up {M : iM} {a sp c dp n : Nat} {g : Nat → Int} (h : va_cpy (M a) (M c) sp dp n = g) : i_cp M a sp c dp n = va_up M c g := by
  unfold i_cp
  rw [h]
set_option maxRecDepth 100000 in
theorem c_fetch {b : Bool} {M : iM} {s t n fr : Nat} {rs : List (Option Nat)} (ht : z_at (SH b) t = some (1, n, rs)) (ht2 : t ≠ 2) (ht4 : t ≠ 4) (hs : s < 48) (hfr : fr + 11 ≤ n) (hn : n < 1000) (hf : by8 (M 2) 720) (hm : ∀ x : Nat, x < 256 → M 3 x = hN 8 (x : Int)) :
    ∃ J, irun none zp_45 0 (i_ent [iP 1, iI (s : Int), iP t, iI (fr : Int)] 5) [] (SH b) M 0 0 (some (rk (M 2) s), SH b, va_up (va_up M 4 J) t (fun k => if rk (M 2) s = 1 ∧ fr ≤ k ∧ k < fr + 11 then rd (M 2) s (k - fr) else M t k)) := by
  by_cases h : M 2 (s * 12 + 11) = chk (M 2) s
  · refine ⟨M 4, ?_⟩
    have hrk : rk (M 2) s = 1 := by unfold rk; rw [if_pos h]
    refine i_aload_n rfl rfl ?_
    refine i_iload_n rfl rfl ?_
    -- at 2
    refine i_call (T := (40, zp_40)) rfl rfl (c_isGood (show s < 60 by omega) hf hm) rfl rfl rfl rfl rfl rfl rfl ?_
    try dsimp only
    show irun none zp_45 5 _ [iI (bi _)] _ _ 0 0 _
    rw [bi_t h]
    refine i_if_eq_f rfl (by first | omega | assumption) ?_
    refine i_aload_n rfl rfl ?_
    refine i_getr rfl rfl rfl rfl (by decide) rfl ?_
    refine i_iload_n rfl rfl ?_
    refine i_bipush (n := 12) rfl (by unfold iR; omega) (by decide) ?_
    refine i_imul rfl (by unfold iR; omega) ?_
    refine i_aload_n rfl rfl ?_
    refine i_iload_n rfl rfl ?_
    refine i_bipush (n := 11) rfl (by unfold iR; omega) (by decide) ?_
    -- at 20
    refine i_copy (n0 := 720) (n1 := n) (r0 := []) rfl rfl rfl ht (by omega) (by omega) (by omega) (by omega) (by omega) (Nat.le_of_ble_eq_true rfl) ?_
    rw [cp_up (g := fun k => if rk (M 2) s = 1 ∧ fr ≤ k ∧ k < fr + 11 then rd (M 2) s (k - fr) else M t k), up_id M 4 rfl, hrk]
    · refine i_iconst (n := 1) rfl (by unfold iR; omega) ?_
      -- at 24
      exact i_zreturn rfl rfl (by first | omega | assumption)
    · funext k
      rw [hrk]
      unfold va_cpy rd
      rw [show ((s : Int) * 12).toNat = s * 12 by omega, show (fr : Int).toNat = fr by omega, show (11 : Int).toNat = 11 by rfl]
      simp [h]
  · have hrk : rk (M 2) s = if nb (M 2) (s / 4) ≤ 1 then 1 else 0 := by unfold rk; rw [if_neg h]
    by_cases h1 : nb (M 2) (s / 4) ≤ 1
    · rw [if_pos h1] at hrk
      refine ⟨fun k => if k < 11 then jn (M 2) (s / 4) ((s % 4 : Nat) : Int) k else M 4 k, ?_⟩
      refine i_aload_n rfl rfl ?_
      refine i_iload_n rfl rfl ?_
      -- at 2
      refine i_call (T := (40, zp_40)) rfl rfl (c_isGood (show s < 60 by omega) hf hm) rfl rfl rfl rfl rfl rfl rfl ?_
      try dsimp only
      show irun none zp_45 5 _ [iI (bi _)] _ _ 0 0 _
      rw [bi_f h]
      refine i_if_eq_t rfl (by first | omega | assumption) ?_
      refine i_iload_n rfl rfl ?_
      refine i_iconst (n := 4) rfl (by unfold iR; omega) ?_
      refine i_idiv rfl (by first | omega | assumption) (by first | omega | assumption) ?_
      refine i_istore rfl (Nat.le_of_ble_eq_true rfl) rfl ?_
      refine i_aload_n rfl rfl ?_
      refine i_iload rfl rfl ?_
      -- at 33
      refine i_call (T := (44, zp_44)) rfl rfl (c_countBad (g := s / 4) (by omega) hf hm) rfl rfl rfl rfl rfl rfl rfl ?_
      try dsimp only
      show irun none zp_45 36 _ [iI (nb (M 2) (s / 4))] _ _ 0 0 _
      refine i_iconst (n := 1) rfl (by unfold iR; omega) ?_
      refine i_icmp_le_t rfl (by first | omega | assumption) ?_
      refine i_aload_n rfl rfl ?_
      refine i_iload rfl rfl ?_
      refine i_iload_n rfl rfl ?_
      refine i_iconst (n := 4) rfl (by unfold iR; omega) ?_
      refine i_irem rfl (by first | omega | assumption) (by first | omega | assumption) ?_
      -- at 48
      refine i_call (T := (42, zp_42)) rfl rfl (c_joinOthers (g := s / 4) (lo := ((s % 4 : Nat) : Int)) (by omega) (by unfold iR; omega) hf) rfl rfl rfl rfl rfl rfl rfl ?_
      try dsimp only
      refine i_aload_n rfl rfl ?_
      refine i_getr rfl rfl rfl rfl (by decide) rfl ?_
      refine i_iconst (n := 0) rfl (by unfold iR; omega) ?_
      refine i_aload_n rfl rfl ?_
      refine i_iload_n rfl rfl ?_
      refine i_bipush (n := 11) rfl (by unfold iR; omega) (by decide) ?_
      -- at 60
      refine i_copy (n0 := 11) (n1 := n) (r0 := []) rfl rfl rfl ht (by omega) (by omega) (by omega) (by omega) (by omega) (Nat.le_of_ble_eq_true rfl) ?_
      rw [cp_up (g := fun k => if rk (M 2) s = 1 ∧ fr ≤ k ∧ k < fr + 11 then rd (M 2) s (k - fr) else M t k), hrk]
      · refine i_iconst (n := 1) rfl (by unfold iR; omega) ?_
        -- at 64
        exact i_zreturn rfl rfl (by first | omega | assumption)
      · funext k
        rw [hrk]
        unfold va_cpy rd
        rw [show (0 : Int).toNat = 0 by rfl, show (fr : Int).toNat = fr by omega, show (11 : Int).toNat = 11 by rfl]
        rw [show (va_up M 4 (fun k => if k < 11 then jn (M 2) (s / 4) ((s % 4 : Nat) : Int) k else M 4 k)) t = M t from up_n ht4]
        show (if fr ≤ k ∧ k < fr + 11 then (if 0 + (k - fr) < 11 then jn (M 2) (s / 4) ((s % 4 : Nat) : Int) (0 + (k - fr)) else M 4 (0 + (k - fr))) else M t k) = _
        by_cases hk : fr ≤ k ∧ k < fr + 11
        · rw [if_pos hk, if_pos (by omega), if_pos ⟨rfl, hk⟩, if_neg h, Nat.zero_add]
        · rw [if_neg hk, if_neg (fun q => hk q.2)]
    · rw [if_neg h1] at hrk
      refine ⟨M 4, ?_⟩
      refine i_aload_n rfl rfl ?_
      refine i_iload_n rfl rfl ?_
      -- at 2
      refine i_call (T := (40, zp_40)) rfl rfl (c_isGood (show s < 60 by omega) hf hm) rfl rfl rfl rfl rfl rfl rfl ?_
      try dsimp only
      show irun none zp_45 5 _ [iI (bi _)] _ _ 0 0 _
      rw [bi_f h]
      refine i_if_eq_t rfl (by first | omega | assumption) ?_
      refine i_iload_n rfl rfl ?_
      refine i_iconst (n := 4) rfl (by unfold iR; omega) ?_
      refine i_idiv rfl (by first | omega | assumption) (by first | omega | assumption) ?_
      refine i_istore rfl (Nat.le_of_ble_eq_true rfl) rfl ?_
      refine i_aload_n rfl rfl ?_
      refine i_iload rfl rfl ?_
      -- at 33
      refine i_call (T := (44, zp_44)) rfl rfl (c_countBad (g := s / 4) (by omega) hf hm) rfl rfl rfl rfl rfl rfl rfl ?_
      try dsimp only
      show irun none zp_45 36 _ [iI (nb (M 2) (s / 4))] _ _ 0 0 _
      refine i_iconst (n := 1) rfl (by unfold iR; omega) ?_
      refine i_icmp_le_f rfl (by first | omega | assumption) ?_
      refine i_iconst (n := 0) rfl (by unfold iR; omega) ?_
      -- at 41
      rw [up_id M 4 rfl, up_id M t (by
        funext k
        rw [hrk, if_neg (fun q => by cases q.1)]), hrk]
      exact i_zreturn rfl rfl (by first | omega | assumption)
