def wS (f : Nat → Int) (s : Nat) (d : Nat → Int) : Nat → Int := fun j => if s * 12 ≤ j ∧ j < s * 12 + 11 then d (j - s * 12) else if j = s * 12 + 11 then chk d 0 else f j
def lw (a : Int) : Int := if a = 0 then -1 else if 0 < a then a - 1 else a
def O1 (O : Nat → Int) : Nat → Int := fun k => if k = 3 then lw (O 3) else if k = 4 then (if O 3 = 0 then 1 else O 4) else if k = 5 then (if O 3 = 0 then O 5 else O 5 + 1) else O k
def wk (a : Int) : Int := if a = 0 then 0 else 1
theorem chk0_b {d : Nat → Int} (hd : by8 d 11) : 0 ≤ chk d 0 ∧ chk d 0 < 256 := by
  have hbk : ∀ k, k ≤ 11 → 0 ≤ ck d 0 k ∧ ck d 0 k < 256 := by
    intro k
    induction k with
    | zero => intro _; unfold ck; omega
    | succ k ih =>
      intro hk
      have h1 := ih (by omega)
      have h2 := hd (0 * 12 + k) (by omega)
      have h3 := ix_b h1.1 h1.2 h2.1 h2.2
      exact hN_b 8 h3.1 h3.2
  exact hbk 11 (by omega)
theorem wS_b {f d : Nat → Int} {s : Nat} (hf : by8 f 720) (hd : by8 d 11) : by8 (wS f s d) 720 := by
  intro j hj
  unfold wS
  split
  · exact hd _ (by omega)
  · split
    · exact chk0_b hd
    · exact hf j hj
theorem wS_c {f d e : Nat → Int} {s : Nat} (h : ∀ k, k < 11 → d k = e k) : wS f s d = wS f s e := by
  funext j
  unfold wS
  rw [chk_c (f := d) (g := e) (s := 0) (t := 0) (fun k hk => h _ (by omega))]
  by_cases c1 : s * 12 ≤ j ∧ j < s * 12 + 11
  · rw [if_pos c1, if_pos c1, h _ (by omega)]
  · rw [if_neg c1, if_neg c1]
theorem sh_lt {b : Bool} {t : Nat} {e : zS} (h : z_at (SH b) t = some e) : t < 63 := by
  rw [z_at_eq] at h
  have := (List.getElem?_eq_some_iff.mp h).1
  have e : (SH b).length = 63 := rfl
  omega
theorem jn8 {f : Nat → Int} {g : Nat} {lo : Int} (hf : by8 f 720) (hg : g < 12) : by8 (jn f g lo) 11 := fun j hj => jn_b hf hg (by omega)
set_option maxRecDepth 100000 in
theorem c_countWriting {b : Bool} {M : iM} (h3 : -1 ≤ M 1 3 ∧ M 1 3 < 1000) (h5 : 0 ≤ M 1 5 ∧ M 1 5 < 2000000000) : irun none zp_37 0 (i_ent [iP 1] 1) [] (SH b) M 0 0 (some (wk (M 1 3)), SH b, va_up M 1 (O1 (M 1))) := by
  by_cases h : M 1 3 = 0
  · have e1 : i_st (i_st M 1 4 1) 1 3 (-1) = va_up M 1 (O1 (M 1)) := by
      rw [show i_st M 1 4 1 = va_up M 1 (va_up (M 1) 4 1) from rfl, up_st]
      refine up_c ?_
      funext k
      unfold O1 lw
      grind [va_up]
    have e2 : wk (M 1 3) = 0 := by unfold wk; rw [if_pos h]
    rw [e2, ← e1]
    refine i_aload_n rfl rfl ?_
    refine i_getf rfl rfl rfl rfl (by decide) ?_
    refine i_if_ne_f rfl (by first | omega | assumption) ?_
    refine i_aload_n rfl rfl ?_
    refine i_iconst (n := 1) rfl (by unfold iR; omega) ?_
    refine i_putz rfl rfl rfl rfl (by first | omega | assumption) ?_
    refine i_aload_n rfl rfl ?_
    refine i_iconst (n := -1) rfl (by unfold iR; omega) ?_
    refine i_puti rfl rfl rfl rfl ?_
    refine i_iconst (n := 0) rfl (by unfold iR; omega) ?_
    -- at 18
    exact i_zreturn rfl rfl (by first | omega | assumption)
  · have e2 : wk (M 1 3) = 1 := by unfold wk; rw [if_neg h]
    by_cases hp : 0 < M 1 3
    · have e1 : i_st (i_st M 1 3 (M 1 3 - 1)) 1 5 (M 1 5 + 1) = va_up M 1 (O1 (M 1)) := by
        rw [show i_st M 1 3 (M 1 3 - 1) = va_up M 1 (va_up (M 1) 3 (M 1 3 - 1)) from rfl, up_st]
        refine up_c ?_
        funext k
        unfold O1 lw
        grind [va_up]
      rw [e2, ← e1]
      refine i_aload_n rfl rfl ?_
      refine i_getf rfl rfl rfl rfl (by decide) ?_
      refine i_if_ne_t rfl (by first | omega | assumption) ?_
      refine i_aload_n rfl rfl ?_
      refine i_getf rfl rfl rfl rfl (by decide) ?_
      refine i_if_le_f rfl (by first | omega | assumption) ?_
      refine i_aload_n rfl rfl ?_
      first | refine i_dup rfl ?_ | refine i_dupr rfl ?_
      refine i_getf rfl rfl rfl rfl (by decide) ?_
      refine i_iconst (n := 1) rfl (by unfold iR; omega) ?_
      refine i_isub rfl (by unfold iR; omega) ?_
      refine i_puti rfl rfl rfl rfl ?_
      refine i_aload_n rfl rfl ?_
      first | refine i_dup rfl ?_ | refine i_dupr rfl ?_
      -- at 38
      refine i_getf rfl rfl rfl rfl (by decide) ?_
      show irun none zp_37 41 _ [iI (M 1 5), iP 1] _ _ 0 0 _
      refine i_iconst (n := 1) rfl (by unfold iR; omega) ?_
      refine i_iadd rfl (by unfold iR; omega) ?_
      refine i_puti rfl rfl rfl rfl ?_
      refine i_iconst (n := 1) rfl (by unfold iR; omega) ?_
      -- at 47
      exact i_zreturn rfl rfl (by first | omega | assumption)
    · have e1 : i_st M 1 5 (M 1 5 + 1) = va_up M 1 (O1 (M 1)) := by
        rw [st_M rfl]
        refine up_c ?_
        funext k
        unfold O1 lw
        grind [va_up]
      rw [e2, ← e1]
      refine i_aload_n rfl rfl ?_
      refine i_getf rfl rfl rfl rfl (by decide) ?_
      refine i_if_ne_t rfl (by first | omega | assumption) ?_
      refine i_aload_n rfl rfl ?_
      refine i_getf rfl rfl rfl rfl (by decide) ?_
      refine i_if_le_t rfl (by first | omega | assumption) ?_
      refine i_aload_n rfl rfl ?_
      first | refine i_dup rfl ?_ | refine i_dupr rfl ?_
      refine i_getf rfl rfl rfl rfl (by decide) ?_
      refine i_iconst (n := 1) rfl (by unfold iR; omega) ?_
      refine i_iadd rfl (by unfold iR; omega) ?_
      refine i_puti rfl rfl rfl rfl ?_
      refine i_iconst (n := 1) rfl (by unfold iR; omega) ?_
      -- at 47
      exact i_zreturn rfl rfl (by first | omega | assumption)
set_option maxRecDepth 100000 in
theorem c_fillI {b : Bool} {M : iM} {s : Nat} (hs : s < 60) (hf : by8 (M 2) 720) (hj : by8 (M 4) 11) (hm : ∀ x : Nat, x < 256 → M 3 x = hN 8 (x : Int)) : irun none zp_43 0 (i_ent [iP 1, iI (s : Int), iP 4] 3) [] (SH b) M 0 0 (none, SH b, va_up M 2 (wS (M 2) s (M 4))) := by
  have e1 : i_cp M 4 (0 : Int).toNat 2 ((s : Int) * 12).toNat (11 : Int).toNat = va_up M 2 (fun j => if s * 12 ≤ j ∧ j < s * 12 + 11 then M 4 (j - s * 12) else M 2 j) := by
    refine cp_up ?_
    funext j
    unfold va_cpy
    rw [show (0 : Int).toNat = 0 by rfl, show ((s : Int) * 12).toNat = s * 12 by omega, show (11 : Int).toNat = 11 by rfl]
    simp
  have hf2 : by8 (fun j => if s * 12 ≤ j ∧ j < s * 12 + 11 then M 4 (j - s * 12) else M 2 j) 720 := by
    intro j hj2
    try dsimp only
    split
    · exact hj _ (by omega)
    · exact hf _ hj2
  have hc : chk (fun j => if s * 12 ≤ j ∧ j < s * 12 + 11 then M 4 (j - s * 12) else M 2 j) s = chk (M 4) 0 := by
    refine chk_c (fun j hj2 => ?_)
    try dsimp only
    rw [if_pos (by omega), show s * 12 + j - s * 12 = 0 * 12 + j by omega]
  refine i_aload_n rfl rfl ?_
  refine i_iconst (n := 0) rfl (by unfold iR; omega) ?_
  refine i_aload_n rfl rfl ?_
  refine i_getr rfl rfl rfl rfl (by decide) rfl ?_
  refine i_iload_n rfl rfl ?_
  refine i_bipush (n := 12) rfl (by unfold iR; omega) (by decide) ?_
  refine i_imul rfl (by unfold iR; omega) ?_
  refine i_bipush (n := 11) rfl (by unfold iR; omega) (by decide) ?_
  refine i_copy rfl rfl rfl rfl (by first | omega | assumption) (by first | omega | assumption) (by first | omega | assumption) (by first | omega | assumption) (by first | omega | assumption) (Nat.le_of_ble_eq_true rfl) ?_
  refine i_aload_n rfl rfl ?_
  refine i_iload_n rfl rfl ?_
  -- at 17
  rw [e1]
  refine i_call (T := (39, zp_39)) rfl rfl (c_seal (M := va_up M 2 (fun j => if s * 12 ≤ j ∧ j < s * 12 + 11 then M 4 (j - s * 12) else M 2 j)) hs hf2 hm) rfl rfl rfl rfl rfl rfl rfl ?_
  try dsimp only
  rw [st_up (g := wS (M 2) s (M 4))]
  · exact i_vreturn rfl rfl
  · show va_up _ (s * 12 + 11) (chk (fun j => if s * 12 ≤ j ∧ j < s * 12 + 11 then M 4 (j - s * 12) else M 2 j) s) = _
    rw [hc]
    funext j
    unfold wS
    grind [va_up]
/-- two writings: a sector and its group's parity -/
def st2 (f O : Nat → Int) (s : Nat) (d : Nat → Int) : Int × (Nat → Int) × (Nat → Int) :=
  if O 3 = 0 then (0, f, O1 O) else if lw (O 3) = 0 then (0, wS f s d, O1 (O1 O)) else (1, wS (wS f s d) (48 + s / 4) (jn (wS f s d) (s / 4) 4), O1 (O1 O))
def Oo (O : Nat → Int) (n : Int) : Prop := (-1 ≤ O 3 ∧ O 3 < 1000) ∧ 0 ≤ O 5 ∧ O 5 ≤ n
theorem O1_o {O : Nat → Int} {n : Int} (h : Oo O n) : Oo (O1 O) (n + 1) := by
  unfold Oo O1 lw at *
  simp
  grind
set_option maxRecDepth 100000 in
theorem c_storeSector {b : Bool} {M : iM} {s t fr size n : Nat} {rs : List (Option Nat)} {N : Int} (ht : z_at (SH b) t = some (1, n, rs)) (ht1 : t ≠ 1) (ht2 : t ≠ 2) (hs : s < 48) (hsz : size ≤ n) (hfr : fr < 1000) (hn : n < 1000) (hO : Oo (M 1) N) (hNN : N < 1000000000)
    (hf : by8 (M 2) 720) (hd : by8 (M t) size) (hm : ∀ x : Nat, x < 256 → M 3 x = hN 8 (x : Int)) :
    ∃ J, irun none zp_48 0 (i_ent [iP 1, iI (s : Int), iP t, iI (fr : Int), iI (size : Int)] 7) [] (SH b) M 0 0 (some (st2 (M 2) (M 1) s (fun k => if fr + k < size then M t (fr + k) else 0)).1, SH b, va_up (va_up (va_up M 1 (st2 (M 2) (M 1) s (fun k => if fr + k < size then M t (fr + k) else 0)).2.2) 2 (st2 (M 2) (M 1) s (fun k => if fr + k < size then M t (fr + k) else 0)).2.1) 4 J) := by
  generalize hde : (fun k => if fr + k < size then M t (fr + k) else 0) = d
  have hd8 : by8 d 11 := by
    intro j hj
    rw [← hde]
    try dsimp only
    split
    · exact hd _ (by omega)
    · omega
  obtain ⟨⟨o1, o2⟩, o3, o4⟩ := hO
  have hO' : Oo (M 1) N := ⟨⟨o1, o2⟩, o3, o4⟩
  have hcw1 := c_countWriting (b := b) (M := M) ⟨o1, o2⟩ ⟨o3, by omega⟩
  by_cases h0 : M 1 3 = 0
  · refine ⟨M 4, ?_⟩
    have e : st2 (M 2) (M 1) s d = (0, M 2, O1 (M 1)) := by unfold st2; rw [if_pos h0]
    rw [e]
    try dsimp only
    rw [show va_up (va_up (va_up M 1 (O1 (M 1))) 2 (M 2)) 4 (M 4) = va_up M 1 (O1 (M 1)) by rw [up_id (va_up M 1 (O1 (M 1))) 2 (f := M 2) rfl, up_id (va_up M 1 (O1 (M 1))) 4 (f := M 4) rfl]]
    refine i_aload_n rfl rfl ?_
    -- at 1
    refine i_call (T := (37, zp_37)) rfl rfl (hcw1) rfl rfl rfl rfl rfl rfl rfl ?_
    try dsimp only
    show irun none zp_48 4 _ [iI (wk (M 1 3))] _ _ 0 0 _
    rw [show wk (M 1 3) = 0 by unfold wk; rw [if_pos h0]]
    refine i_if_ne_f rfl (by first | omega | assumption) ?_
    refine i_iconst (n := 0) rfl (by unfold iR; omega) ?_
    -- at 8
    exact i_zreturn rfl rfl (by first | omega | assumption)
  · have hf1 := wS_b (s := s) hf hd8
    have hO2 := O1_o hO'
    have hcs : chk (fun j => if s * 12 ≤ j ∧ j < s * 12 + 11 then d (j - s * 12) else M 2 j) s = chk d 0 := by
      refine chk_c (fun j hj2 => ?_)
      try dsimp only
      rw [if_pos (by omega), show s * 12 + j - s * 12 = 0 * 12 + j by omega]
    have hfc : by8 (fun j => if s * 12 ≤ j ∧ j < s * 12 + 11 then d (j - s * 12) else M 2 j) 720 := by
      intro j hj2
      try dsimp only
      split
      · exact hd8 _ (by omega)
      · exact hf _ hj2
    have loop : ∀ (q : Option Int × List zS × iM), irun none zp_48 58 [some (iP 1), some (iI (s : Int)), some (iP t), some (iI (fr : Int)), some (iI (size : Int)), some (iI 11), some (iI ((fr + 10 : Nat) : Int))] [] (SH b) (va_up (va_up M 1 (O1 (M 1))) 2 (fun j => if s * 12 ≤ j ∧ j < s * 12 + 11 then d (j - s * 12) else M 2 j)) 0 0 q →
        ∀ (c p : Nat), p + c = 11 → ∀ l6 : Option iV, (p = 11 → l6 = some (iI ((fr + 10 : Nat) : Int))) → irun none zp_48 12 [some (iP 1), some (iI (s : Int)), some (iP t), some (iI (fr : Int)), some (iI (size : Int)), some (iI (p : Int)), l6] [] (SH b) (va_up (va_up M 1 (O1 (M 1))) 2 (fun j => if s * 12 ≤ j ∧ j < s * 12 + p then d (j - s * 12) else M 2 j)) 0 0 q := by
      intro q k c
      induction c with
      | zero =>
        intro p hp l6 h6
        obtain rfl : p = 11 := by omega
        rw [h6 rfl]
        refine i_iload rfl rfl ?_
        refine i_bipush (n := 11) rfl (by unfold iR; omega) (by decide) ?_
        refine i_icmp_ge_t rfl (by first | omega | assumption) ?_
        -- at 58
        exact k
      | succ c ih =>
        intro p hp l6 _
        have hnx := ih (p + 1) (by omega) (some (iI ((fr + p : Nat) : Int))) (fun h => by rw [show p = 10 by omega])
        have hdp : d p = if fr + p < size then M t (fr + p) else 0 := by rw [← hde]
        have fin : ∀ v : Int, v = d p → i_st (va_up (va_up M 1 (O1 (M 1))) 2 (fun j => if s * 12 ≤ j ∧ j < s * 12 + p then d (j - s * 12) else M 2 j)) 2 ((s : Int) * 12 + (p : Int)).toNat v = va_up (va_up M 1 (O1 (M 1))) 2 (fun j => if s * 12 ≤ j ∧ j < s * 12 + (p + 1) then d (j - s * 12) else M 2 j) := by
          intro v hv
          refine st_up ?_
          rw [show ((s : Int) * 12 + (p : Int)).toNat = s * 12 + p by omega, hv]
          funext j
          have e : d p = d (s * 12 + p - s * 12) := by rw [show s * 12 + p - s * 12 = p by omega]
          grind [va_up]
        by_cases hlt : fr + p < size
        · rw [if_pos hlt] at hdp
          refine i_iload rfl rfl ?_
          refine i_bipush (n := 11) rfl (by unfold iR; omega) (by decide) ?_
          refine i_icmp_ge_f rfl (by first | omega | assumption) ?_
          refine i_iload_n rfl rfl ?_
          refine i_iload rfl rfl ?_
          refine i_iadd rfl (by unfold iR; omega) ?_
          refine i_istore rfl (Nat.le_of_ble_eq_true rfl) rfl ?_
          refine i_aload_n rfl rfl ?_
          refine i_getr rfl rfl rfl rfl (by decide) rfl ?_
          refine i_iload_n rfl rfl ?_
          refine i_bipush (n := 12) rfl (by unfold iR; omega) (by decide) ?_
          refine i_imul rfl (by unfold iR; omega) ?_
          refine i_iload rfl rfl ?_
          refine i_iadd rfl (by unfold iR; omega) ?_
          refine i_iload rfl rfl ?_
          refine i_iload rfl rfl ?_
          refine i_icmp_ge_f rfl (by first | omega | assumption) ?_
          refine i_aload_n rfl rfl ?_
          refine i_iload rfl rfl ?_
          -- at 46
          refine i_iald rfl ht (by omega) (by omega) (by have := sh_lt ht; omega) ?_
          rw [show ((fr : Int) + (p : Int)).toNat = fr + p by omega, show (va_up (va_up M 1 (O1 (M 1))) 2 (fun j => if s * 12 ≤ j ∧ j < s * 12 + p then d (j - s * 12) else M 2 j)) t = M t by rw [up_n ht2, up_n ht1]]
          refine i_goto rfl ?_
          refine i_iast rfl rfl (by first | omega | assumption) (by first | omega | assumption) ?_
          refine i_iinc rfl rfl (by unfold iR; omega) (Nat.le_of_ble_eq_true rfl) rfl ?_
          refine i_goto rfl ?_
          -- at 12
          rw [fin _ hdp.symm]
          exact hnx
        · rw [if_neg hlt] at hdp
          refine i_iload rfl rfl ?_
          refine i_bipush (n := 11) rfl (by unfold iR; omega) (by decide) ?_
          refine i_icmp_ge_f rfl (by first | omega | assumption) ?_
          refine i_iload_n rfl rfl ?_
          refine i_iload rfl rfl ?_
          refine i_iadd rfl (by unfold iR; omega) ?_
          refine i_istore rfl (Nat.le_of_ble_eq_true rfl) rfl ?_
          refine i_aload_n rfl rfl ?_
          refine i_getr rfl rfl rfl rfl (by decide) rfl ?_
          refine i_iload_n rfl rfl ?_
          refine i_bipush (n := 12) rfl (by unfold iR; omega) (by decide) ?_
          refine i_imul rfl (by unfold iR; omega) ?_
          refine i_iload rfl rfl ?_
          refine i_iadd rfl (by unfold iR; omega) ?_
          refine i_iload rfl rfl ?_
          refine i_iload rfl rfl ?_
          refine i_icmp_ge_t rfl (by first | omega | assumption) ?_
          refine i_iconst (n := 0) rfl (by unfold iR; omega) ?_
          refine i_iast rfl rfl (by first | omega | assumption) (by first | omega | assumption) ?_
          refine i_iinc rfl rfl (by unfold iR; omega) (Nat.le_of_ble_eq_true rfl) rfl ?_
          refine i_goto rfl ?_
          -- at 12
          rw [fin _ hdp.symm]
          exact hnx
    have hseal := c_seal (b := b) (M := va_up (va_up M 1 (O1 (M 1))) 2 (fun j => if s * 12 ≤ j ∧ j < s * 12 + 11 then d (j - s * 12) else M 2 j)) (s := s) (by omega) hfc hm
    rw [st_up (g := wS (M 2) s d) (by
      show va_up _ (s * 12 + 11) (chk (fun j => if s * 12 ≤ j ∧ j < s * 12 + 11 then d (j - s * 12) else M 2 j) s) = _
      rw [hcs]
      funext j
      unfold wS
      grind [va_up])] at hseal
    have hcw2 := c_countWriting (b := b) (M := va_up (va_up M 1 (O1 (M 1))) 2 (wS (M 2) s d)) hO2.1 ⟨hO2.2.1, by have := hO2.2.2; show O1 (M 1) 5 < _; omega⟩
    rw [show va_up (va_up (va_up M 1 (O1 (M 1))) 2 (wS (M 2) s d)) 1 (O1 ((va_up (va_up M 1 (O1 (M 1))) 2 (wS (M 2) s d)) 1)) = va_up (va_up M 1 (O1 (O1 (M 1)))) 2 (wS (M 2) s d) by
      rw [up_sw (c := 2) (d := 1) (by decide), up_up]; rfl] at hcw2
    have hcw2 : irun none zp_37 0 (i_ent [iP 1] 1) [] (SH b) (va_up (va_up M 1 (O1 (M 1))) 2 (wS (M 2) s d)) 0 0 (some (wk (lw (M 1 3))), SH b, va_up (va_up M 1 (O1 (O1 (M 1)))) 2 (wS (M 2) s d)) := hcw2
    by_cases h1 : lw (M 1 3) = 0
    · refine ⟨M 4, ?_⟩
      have e : st2 (M 2) (M 1) s d = (0, wS (M 2) s d, O1 (O1 (M 1))) := by unfold st2; rw [if_neg h0, if_pos h1]
      rw [e]
      try dsimp only
      rw [up_id (va_up (va_up M 1 (O1 (O1 (M 1)))) 2 (wS (M 2) s d)) 4 (f := M 4) rfl]
      refine i_aload_n rfl rfl ?_
      -- at 1
      refine i_call (T := (37, zp_37)) rfl rfl (hcw1) rfl rfl rfl rfl rfl rfl rfl ?_
      try dsimp only
      show irun none zp_48 4 _ [iI (wk (M 1 3))] _ _ 0 0 _
      rw [show wk (M 1 3) = 1 by unfold wk; rw [if_neg h0]]
      refine i_if_ne_t rfl (by first | omega | assumption) ?_
      refine i_iconst (n := 0) rfl (by unfold iR; omega) ?_
      refine i_istore rfl (Nat.le_of_ble_eq_true rfl) rfl ?_
      -- at 12
      have hl := loop (some 0, SH b, va_up (va_up M 1 (O1 (O1 (M 1)))) 2 (wS (M 2) s d)) ?_ 11 0 rfl none (fun h => by cases h)
      · rw [show (fun j => if s * 12 ≤ j ∧ j < s * 12 + 0 then d (j - s * 12) else M 2 j) = M 2 by funext j; rw [if_neg (by omega)], up_id (va_up M 1 (O1 (M 1))) 2 (f := M 2) rfl] at hl
        exact hl
      · refine i_aload_n rfl rfl ?_
        refine i_iload_n rfl rfl ?_
        -- at 60
        refine i_call (T := (39, zp_39)) rfl rfl (hseal) rfl rfl rfl rfl rfl rfl rfl ?_
        try dsimp only
        refine i_aload_n rfl rfl ?_
        -- at 64
        refine i_call (T := (37, zp_37)) rfl rfl (hcw2) rfl rfl rfl rfl rfl rfl rfl ?_
        try dsimp only
        show irun none zp_48 67 _ [iI (wk (lw (M 1 3)))] _ _ 0 0 _
        rw [show wk (lw (M 1 3)) = 0 by unfold wk; rw [if_pos h1]]
        refine i_if_ne_f rfl (by first | omega | assumption) ?_
        refine i_iconst (n := 0) rfl (by unfold iR; omega) ?_
        -- at 71
        exact i_zreturn rfl rfl (by first | omega | assumption)
    · refine ⟨fun k => if k < 11 then jn (wS (M 2) s d) (s / 4) 4 k else M 4 k, ?_⟩
      have e : st2 (M 2) (M 1) s d = (1, wS (wS (M 2) s d) (48 + s / 4) (jn (wS (M 2) s d) (s / 4) 4), O1 (O1 (M 1))) := by unfold st2; rw [if_neg h0, if_neg h1]
      rw [e]
      try dsimp only
      have hj := c_joinOthers (b := b) (M := va_up (va_up M 1 (O1 (O1 (M 1)))) 2 (wS (M 2) s d)) (g := s / 4) (lo := 4) (by omega) (by unfold iR; omega) hf1
      have hfl := c_fillI (b := b) (M := va_up (va_up (va_up M 1 (O1 (O1 (M 1)))) 2 (wS (M 2) s d)) 4 (fun k => if k < 11 then jn (wS (M 2) s d) (s / 4) 4 k else M 4 k)) (s := 48 + s / 4) (by omega) hf1 (by
        intro j hj2
        show 0 ≤ (if j < 11 then _ else _) ∧ (if j < 11 then _ else _) < 256
        rw [if_pos hj2]
        exact jn_b hf1 (by omega) (by omega)) hm
      rw [show va_up (va_up (va_up (va_up M 1 (O1 (O1 (M 1)))) 2 (wS (M 2) s d)) 4 (fun k => if k < 11 then jn (wS (M 2) s d) (s / 4) 4 k else M 4 k)) 2 (wS ((va_up (va_up (va_up M 1 (O1 (O1 (M 1)))) 2 (wS (M 2) s d)) 4 (fun k => if k < 11 then jn (wS (M 2) s d) (s / 4) 4 k else M 4 k)) 2) (48 + s / 4) ((va_up (va_up (va_up M 1 (O1 (O1 (M 1)))) 2 (wS (M 2) s d)) 4 (fun k => if k < 11 then jn (wS (M 2) s d) (s / 4) 4 k else M 4 k)) 4)) = va_up (va_up (va_up M 1 (O1 (O1 (M 1)))) 2 (wS (wS (M 2) s d) (48 + s / 4) (jn (wS (M 2) s d) (s / 4) 4))) 4 (fun k => if k < 11 then jn (wS (M 2) s d) (s / 4) 4 k else M 4 k) by
        rw [up_sw (c := 4) (d := 2) (by decide), up_up]
        congr 2
        exact wS_c (fun k hk => by
          show (if k < 11 then _ else _) = _
          rw [if_pos hk])] at hfl
      refine i_aload_n rfl rfl ?_
      -- at 1
      refine i_call (T := (37, zp_37)) rfl rfl (hcw1) rfl rfl rfl rfl rfl rfl rfl ?_
      try dsimp only
      show irun none zp_48 4 _ [iI (wk (M 1 3))] _ _ 0 0 _
      rw [show wk (M 1 3) = 1 by unfold wk; rw [if_neg h0]]
      refine i_if_ne_t rfl (by first | omega | assumption) ?_
      refine i_iconst (n := 0) rfl (by unfold iR; omega) ?_
      refine i_istore rfl (Nat.le_of_ble_eq_true rfl) rfl ?_
      -- at 12
      have hl := loop (some 1, SH b, va_up (va_up (va_up M 1 (O1 (O1 (M 1)))) 2 (wS (wS (M 2) s d) (48 + s / 4) (jn (wS (M 2) s d) (s / 4) 4))) 4 (fun k => if k < 11 then jn (wS (M 2) s d) (s / 4) 4 k else M 4 k)) ?_ 11 0 rfl none (fun h => by cases h)
      · rw [show (fun j => if s * 12 ≤ j ∧ j < s * 12 + 0 then d (j - s * 12) else M 2 j) = M 2 by funext j; rw [if_neg (by omega)], up_id (va_up M 1 (O1 (M 1))) 2 (f := M 2) rfl] at hl
        exact hl
      · refine i_aload_n rfl rfl ?_
        refine i_iload_n rfl rfl ?_
        -- at 60
        refine i_call (T := (39, zp_39)) rfl rfl (hseal) rfl rfl rfl rfl rfl rfl rfl ?_
        try dsimp only
        refine i_aload_n rfl rfl ?_
        -- at 64
        refine i_call (T := (37, zp_37)) rfl rfl (hcw2) rfl rfl rfl rfl rfl rfl rfl ?_
        try dsimp only
        show irun none zp_48 67 _ [iI (wk (lw (M 1 3)))] _ _ 0 0 _
        rw [show wk (lw (M 1 3)) = 1 by unfold wk; rw [if_neg h1]]
        refine i_if_ne_t rfl (by first | omega | assumption) ?_
        refine i_iload_n rfl rfl ?_
        refine i_iconst (n := 4) rfl (by unfold iR; omega) ?_
        refine i_idiv rfl (by first | omega | assumption) (by first | omega | assumption) ?_
        refine i_istore rfl (Nat.le_of_ble_eq_true rfl) rfl ?_
        refine i_aload_n rfl rfl ?_
        refine i_iload rfl rfl ?_
        refine i_iconst (n := 4) rfl (by unfold iR; omega) ?_
        -- at 81
        refine i_call (T := (42, zp_42)) rfl rfl (hj) rfl rfl rfl rfl rfl rfl rfl ?_
        try dsimp only
        refine i_aload_n rfl rfl ?_
        refine i_iload rfl rfl ?_
        refine i_iconst (n := 4) rfl (by unfold iR; omega) ?_
        -- at 88
        refine i_call (T := (41, zp_41)) rfl rfl (c_sectorOf (g := s / 4) (m := 4) (by omega) (by decide)) rfl rfl rfl rfl rfl rfl rfl ?_
        try dsimp only
        refine i_aload_n rfl rfl ?_
        refine i_getr rfl rfl rfl rfl (by decide) rfl ?_
        -- at 95
        refine i_call (T := (43, zp_43)) rfl rfl (hfl) rfl rfl rfl rfl rfl rfl rfl ?_
        try dsimp only
        refine i_iconst (n := 1) rfl (by unfold iR; omega) ?_
        -- at 99
        exact i_zreturn rfl rfl (by first | omega | assumption)
