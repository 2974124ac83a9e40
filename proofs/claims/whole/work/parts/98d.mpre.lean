theorem sF_inj {S : Nat → Int} {n : Nat} : ∀ {j k : Nat}, k < j → j < sc S n → sF S n k < sF S n j := by
  intro j
  induction j with
  | zero => intro k hk; omega
  | succ j ih =>
    intro k hk hj
    have h := (gs_ok (S := S) (n := n) 256).2.2.1 j hj
    by_cases e : k = j
    · rw [e]; exact h
    · have := ih (k := k) (by omega) (by omega)
      exact Int.lt_trans this h
theorem eP_m {S : Nat → Int} {n : Nat} {i j : Nat} (h : i ≤ j) : (eP S n i).length ≤ (eP S n j).length := by
  induction h with
  | refl => exact Nat.le_refl _
  | step h ih =>
    refine Nat.le_trans ih ?_
    show _ ≤ (eP S n _ ++ vb _ _).length
    rw [List.length_append]
    omega
def G3 (M M' : iM) : Prop := ∀ k, k ≠ 20 → k ≠ 26 → M' 40 k = M 40 k
set_option maxRecDepth 100000 in
theorem d_pfE {b : Bool} {M : iM} {S : Nat → Int} {n : Nat} (hn : M 40 14 = (n : Int)) (h96 : n ≤ 96) (h1 : 1 ≤ n) (hS : ∀ j, j < n → M 48 j = S j ∧ 0 ≤ S j ∧ S j < 256) (h : OW M []) (hw : M 40 21 = 0 ∨ (eP S n n).length ≤ 1000) : ∃ M', irun none zp_128 0 (i_ent [iP 40] 3) [] (SH b) M 0 0 (none, SH b, M') ∧ Fr [40, 50, 53, 54, 55, 56, 57, 58, 59] M M' ∧ G3 M M' ∧ OW M' (eP S n n) := by
  have hS2 : ∀ j, j < n → 0 ≤ S j ∧ S j < 256 := fun j hj => (hS j hj).2
  obtain ⟨p1, p2, p3, p4, p5, p6⟩ := p_ok hS2 h96 h1
  have hlen := eP_len hS2 h96 h1
  have inner : ∀ (i : Nat), i < n → ∀ (d k : Nat) (M1 : iM), k + d = sc S n → M1 40 26 = (sc S n : Int) → (M1 40 21 = 0 ∨ (eP S n n).length ≤ 1000) → (∀ j, j < n → M1 48 j = S j) → (∀ j, j < sc S n → M1 53 j = sF S n j ∧ M1 56 j = hl S n j ∧ M1 57 j = cd (hl S n) (sc S n) j) → OW M1 (if k ≤ sx (sF S n) (S i) (sc S n) then eP S n i else eP S n (i + 1)) → ∃ M2, (∀ q, irun none zp_128 118 [some (iP 40), some (iI (i : Int)), some (iI (sc S n : Int))] [] (SH b) M2 0 0 q → irun none zp_128 73 [some (iP 40), some (iI (i : Int)), some (iI (k : Int))] [] (SH b) M1 0 0 q) ∧ Fr [40, 50] M1 M2 ∧ G2 M1 M2 ∧ OW M2 (eP S n (i + 1)) := by
    intro i hi d
    obtain ⟨s1, s2⟩ := p5 i hi
    induction d with
    | zero =>
      intro k M1 hk hc hw1 hs hf ho
      obtain rfl : k = sc S n := by omega
      rw [if_neg (by omega)] at ho
      refine ⟨M1, fun q hq => ?_, Fr_r _ _, fun k _ => rfl, ho⟩
      refine i_iload_n rfl rfl ?_
      refine i_aload_n rfl rfl ?_
      refine i_getf rfl rfl rfl rfl (by decide) ?_
      refine i_icmp_ge_t rfl (by first | omega | assumption) ?_
      -- at 118
      exact hq
    | succ d ih =>
      intro k M1 hk hc hw1 hs hf ho
      obtain ⟨f1, f2, f3⟩ := hf k (by omega)
      by_cases e : k = sx (sF S n) (S i) (sc S n)
      · rw [if_pos (by omega)] at ho
        rw [← e] at s2
        have q3 := p6 k (by omega)
        obtain ⟨m, em⟩ := Int.eq_ofNat_of_zero_le (show 0 ≤ hl S n k by omega)
        have hl1 := hlen i (by omega)
        have el : (eP S n (i + 1)).length = (eP S n i).length + m := by
          show (eP S n i ++ vb (cd (hl S n) (sc S n) (sx (sF S n) (S i) (sc S n))) (hl S n (sx (sF S n) (S i) (sc S n))).toNat).length = _
          rw [← e, em, List.length_append, vb_len]
          rfl
        have hm := eP_m (S := S) (n := n) (show i + 1 ≤ n by omega)
        obtain ⟨M2, k1, k2, k3, k4⟩ := d_low (b := b) (n := m) (v := cd (hl S n) (sc S n) k) ho (by omega) (by rcases hw1 with z | z <;> omega) (by omega) (cd_0 (by omega))
        obtain ⟨M3, g1, g2, g3, g4⟩ := ih (k + 1) M2 (by omega) (by rw [k3 26 (by decide)]; exact hc) (by rw [k3 21 (by decide)]; exact hw1) (fun j hj => by rw [k2 48 (by decide)]; exact hs j hj) (fun j hj => by rw [k2 53 (by decide), k2 56 (by decide), k2 57 (by decide)]; exact hf j hj) (by
          rw [if_neg (by omega)]
          show OW M2 (eP S n i ++ vb (cd (hl S n) (sc S n) (sx (sF S n) (S i) (sc S n))) (hl S n (sx (sF S n) (S i) (sc S n))).toNat)
          rw [← e, em]
          exact k4)
        refine ⟨M3, fun q hq => ?_, Fr_t k2 g2 (by decide), G2_t k3 g3, g4⟩
        have g1 := g1 q hq
        refine i_iload_n rfl rfl ?_
        refine i_aload_n rfl rfl ?_
        refine i_getf rfl rfl rfl rfl (by decide) ?_
        refine i_icmp_ge_f rfl (by first | omega | assumption) ?_
        refine i_aload_n rfl rfl ?_
        refine i_getr rfl rfl rfl rfl (by decide) rfl ?_
        refine i_iload_n rfl rfl ?_
        refine i_iald rfl rfl (by first | omega | assumption) (by first | omega | assumption) (by decide) ?_
        -- at 87
        rw [show (k : Int).toNat = k by omega, f1]
        refine i_aload_n rfl rfl ?_
        refine i_getr rfl rfl rfl rfl (by decide) rfl ?_
        refine i_iload_n rfl rfl ?_
        refine i_iald rfl rfl (by first | omega | assumption) (by first | omega | assumption) (by decide) ?_
        -- at 93
        rw [show (i : Int).toNat = i by omega, hs i hi]
        refine i_icmp_ne_f rfl (by first | omega | assumption) ?_
        refine i_aload_n rfl rfl ?_
        refine i_aload_n rfl rfl ?_
        refine i_getr rfl rfl rfl rfl (by decide) rfl ?_
        refine i_iload_n rfl rfl ?_
        refine i_iald rfl rfl (by first | omega | assumption) (by first | omega | assumption) (by decide) ?_
        -- at 103
        rw [show (k : Int).toNat = k by omega, f3]
        refine i_aload_n rfl rfl ?_
        refine i_getr rfl rfl rfl rfl (by decide) rfl ?_
        refine i_iload_n rfl rfl ?_
        refine i_iald rfl rfl (by first | omega | assumption) (by first | omega | assumption) (by decide) ?_
        -- at 109
        rw [show (k : Int).toNat = k by omega, f2, em]
        refine i_call (T := (119, zp_119)) rfl rfl (k1) rfl rfl rfl rfl rfl rfl rfl ?_
        try dsimp only
        refine i_iinc rfl rfl (by unfold iR; omega) (Nat.le_of_ble_eq_true rfl) rfl ?_
        refine i_goto rfl ?_
        -- at 73
        exact g1
      · have ne : sF S n k ≠ S i := by
          intro z
          rw [← s2] at z
          rcases Nat.lt_or_gt_of_ne e with q | q
          · have := sF_inj (S := S) (n := n) q s1
            omega
          · have := sF_inj (S := S) (n := n) q (show k < sc S n by omega)
            omega
        obtain ⟨M3, g1, g2⟩ := ih (k + 1) M1 (by omega) hc hw1 hs hf (by
          by_cases q : k ≤ sx (sF S n) (S i) (sc S n)
          · rw [if_pos q] at ho
            rw [if_pos (by omega)]
            exact ho
          · rw [if_neg q] at ho
            rw [if_neg (by omega)]
            exact ho)
        refine ⟨M3, fun q hq => ?_, g2⟩
        have g1 := g1 q hq
        refine i_iload_n rfl rfl ?_
        refine i_aload_n rfl rfl ?_
        refine i_getf rfl rfl rfl rfl (by decide) ?_
        refine i_icmp_ge_f rfl (by first | omega | assumption) ?_
        refine i_aload_n rfl rfl ?_
        refine i_getr rfl rfl rfl rfl (by decide) rfl ?_
        refine i_iload_n rfl rfl ?_
        refine i_iald rfl rfl (by first | omega | assumption) (by first | omega | assumption) (by decide) ?_
        -- at 87
        rw [show (k : Int).toNat = k by omega, f1]
        refine i_aload_n rfl rfl ?_
        refine i_getr rfl rfl rfl rfl (by decide) rfl ?_
        refine i_iload_n rfl rfl ?_
        refine i_iald rfl rfl (by first | omega | assumption) (by first | omega | assumption) (by decide) ?_
        -- at 93
        rw [show (i : Int).toNat = i by omega, hs i hi]
        refine i_icmp_ne_t rfl (by first | omega | assumption) ?_
        refine i_iinc rfl rfl (by unfold iR; omega) (Nat.le_of_ble_eq_true rfl) rfl ?_
        refine i_goto rfl ?_
        -- at 73
        exact g1
  have body : ∀ (d i : Nat) (M1 : iM) (x : Option iV), i + d = n → M1 40 14 = (n : Int) → M1 40 26 = (sc S n : Int) → (M1 40 21 = 0 ∨ (eP S n n).length ≤ 1000) → (∀ j, j < n → M1 48 j = S j) → (∀ j, j < sc S n → M1 53 j = sF S n j ∧ M1 56 j = hl S n j ∧ M1 57 j = cd (hl S n) (sc S n) j) → OW M1 (eP S n i) → ∃ M', irun none zp_128 63 [some (iP 40), some (iI (i : Int)), x] [] (SH b) M1 0 0 (none, SH b, M') ∧ Fr [40, 50] M1 M' ∧ G2 M1 M' ∧ OW M' (eP S n n) := by
    intro d
    induction d with
    | zero =>
      intro i M1 x hi hn1 _ _ _ _ ho
      obtain rfl : i = n := by omega
      refine ⟨M1, ?_, Fr_r _ _, fun k _ => rfl, ho⟩
      refine i_iload_n rfl rfl ?_
      refine i_aload_n rfl rfl ?_
      refine i_getf rfl rfl rfl rfl (by decide) ?_
      refine i_icmp_ge_t rfl (by first | omega | assumption) ?_
      -- at 124
      exact i_vreturn rfl rfl
    | succ d ih =>
      intro i M1 x hi hn1 hc hw1 hs hf ho
      obtain ⟨M2, k1, k2, k3, k4⟩ := inner i (by omega) (sc S n) 0 M1 (by omega) hc hw1 hs hf (by rw [if_pos (by omega)]; exact ho)
      obtain ⟨M', g1, g2, g3, g4⟩ := ih (i + 1) M2 (some (iI (sc S n : Int))) (by omega) (by rw [k3 14 (by decide)]; exact hn1) (by rw [k3 26 (by decide)]; exact hc) (by rw [k3 21 (by decide)]; exact hw1) (fun j hj => by rw [k2 48 (by decide)]; exact hs j hj) (fun j hj => by rw [k2 53 (by decide), k2 56 (by decide), k2 57 (by decide)]; exact hf j hj) k4
      refine ⟨M', ?_, Fr_t k2 g2 (by decide), G2_t k3 g3, g4⟩
      refine i_iload_n rfl rfl ?_
      refine i_aload_n rfl rfl ?_
      refine i_getf rfl rfl rfl rfl (by decide) ?_
      refine i_icmp_ge_f rfl (by first | omega | assumption) ?_
      refine i_iconst (n := 0) rfl (by unfold iR; omega) ?_
      refine i_istore_n rfl (Nat.le_of_ble_eq_true rfl) rfl ?_
      -- at 73
      refine k1 _ ?_
      refine i_iinc rfl rfl (by unfold iR; omega) (Nat.le_of_ble_eq_true rfl) rfl ?_
      refine i_goto rfl ?_
      -- at 63
      exact g1
  have head : ∀ (d k : Nat) (M1 : iM), k + d = sc S n → M1 40 26 = (sc S n : Int) → (M1 40 21 = 0 ∨ (eP S n n).length ≤ 1000) → (∀ j, j < sc S n → M1 53 j = sF S n j ∧ M1 56 j = hl S n j) → OW M1 (eH S n k) → ∃ M2, (∀ q, irun none zp_128 61 [some (iP 40), some (iI (sc S n : Int)), none] [] (SH b) M2 0 0 q → irun none zp_128 24 [some (iP 40), some (iI (k : Int)), none] [] (SH b) M1 0 0 q) ∧ Fr [40, 50] M1 M2 ∧ G2 M1 M2 ∧ OW M2 (eH S n (sc S n)) := by
    intro d
    induction d with
    | zero =>
      intro k M1 hk hc _ _ ho
      obtain rfl : k = sc S n := by omega
      refine ⟨M1, fun q hq => ?_, Fr_r _ _, fun k _ => rfl, ho⟩
      refine i_iload_n rfl rfl ?_
      refine i_aload_n rfl rfl ?_
      refine i_getf rfl rfl rfl rfl (by decide) ?_
      refine i_icmp_ge_t rfl (by first | omega | assumption) ?_
      -- at 61
      exact hq
    | succ d ih =>
      intro k M1 hk hc hw1 hf ho
      obtain ⟨f1, f2⟩ := hf k (by omega)
      obtain ⟨s1, s2, _⟩ := p4 k (by omega)
      obtain ⟨l1, l2⟩ := p6 k (by omega)
      have e1 := eH_len (S := S) (n := n) k
      have e2 : (eP S n 0).length = 7 + 12 * sc S n := eH_len (S := S) (n := n) (sc S n)
      have e3 := eP_m (S := S) (n := n) (Nat.zero_le n)
      obtain ⟨M2, k1, k2, k3, k4⟩ := d_low (b := b) (n := 8) (v := sF S n k) ho (by omega) (by rcases hw1 with z | z <;> omega) (by omega) s1
      have e4 : (eH S n k ++ vb (sF S n k) 8).length = 15 + 12 * k := by
        rw [List.length_append, vb_len, e1]
        omega
      obtain ⟨M3, k5, k6, k7, k8⟩ := d_low (b := b) (n := 4) (v := hl S n k) k4 (by omega) (by rw [k3 21 (by decide)]; rcases hw1 with z | z <;> omega) (by omega) (by omega)
      have f3 : Fr [40, 50] M1 M3 := Fr_t k2 k6 (by decide)
      have g3 := G2_t k3 k7
      obtain ⟨M4, g1, g2, g4, g5⟩ := ih (k + 1) M3 (by omega) (by rw [g3 26 (by decide)]; exact hc) (by rw [g3 21 (by decide)]; exact hw1) (fun j hj => by rw [f3 53 (by decide), f3 56 (by decide)]; exact hf j hj) k8
      refine ⟨M4, fun q hq => ?_, Fr_t f3 g2 (by decide), G2_t g3 g4, g5⟩
      have g1 := g1 q hq
      refine i_iload_n rfl rfl ?_
      refine i_aload_n rfl rfl ?_
      refine i_getf rfl rfl rfl rfl (by decide) ?_
      refine i_icmp_ge_f rfl (by first | omega | assumption) ?_
      refine i_aload_n rfl rfl ?_
      refine i_aload_n rfl rfl ?_
      refine i_getr rfl rfl rfl rfl (by decide) rfl ?_
      refine i_iload_n rfl rfl ?_
      refine i_iald rfl rfl (by first | omega | assumption) (by first | omega | assumption) (by decide) ?_
      -- at 39
      rw [show (k : Int).toNat = k by omega, f1]
      refine i_bipush (n := 8) rfl (by unfold iR; omega) (by decide) ?_
      -- at 41
      refine i_call (T := (119, zp_119)) rfl rfl (k1) rfl rfl rfl rfl rfl rfl rfl ?_
      try dsimp only
      refine i_aload_n rfl rfl ?_
      refine i_aload_n rfl rfl ?_
      refine i_getr rfl rfl rfl rfl (by decide) rfl ?_
      refine i_iload_n rfl rfl ?_
      refine i_iald rfl rfl (by first | omega | assumption) (by first | omega | assumption) (by decide) ?_
      -- at 51
      rw [show (k : Int).toNat = k by omega, k2 56 (by decide), f2]
      refine i_iconst (n := 4) rfl (by unfold iR; omega) ?_
      -- at 52
      refine i_call (T := (119, zp_119)) rfl rfl (k5) rfl rfl rfl rfl rfl rfl rfl ?_
      try dsimp only
      refine i_iinc rfl rfl (by unfold iR; omega) (Nat.le_of_ble_eq_true rfl) rfl ?_
      refine i_goto rfl ?_
      -- at 24
      exact g1
  obtain ⟨M1, a1, a2, a3, a4, a5⟩ := d_count (b := b) hn h96 hS
  obtain ⟨M2, b1, b2, b3⟩ := d_lengths (b := b) (W := wF S n) a4 p1 (by omega) (fun k hk => ⟨(a5 k hk).2, (p4 k hk).2.2⟩) (by omega)
  have b3' : ∀ k, k < sc S n → M2 56 k = hl S n k := b3
  have n2 : M2 40 26 = (sc S n : Int) := by rw [b2 40 (by decide)]; exact a4
  obtain ⟨M3, d1, d2, d3⟩ := d_codes (b := b) n2 (by omega)
  have e40 : M3 40 = M1 40 := by rw [d2 40 (by decide), b2 40 (by decide)]
  have g03 : ∀ k, k ≠ 26 → M3 40 k = M 40 k := fun k hk => by rw [e40]; exact a3 k hk
  have hw3 : M3 40 21 = 0 ∨ (eP S n n).length ≤ 1000 := by rw [g03 21 (by decide)]; exact hw
  have ow3 : OW M3 [] := by
    obtain ⟨w1, w2, w3⟩ := h
    refine ⟨by rw [g03 20 (by decide)]; exact w1, ?_, w3⟩
    rw [g03 21 (by decide), d2 50 (by decide), b2 50 (by decide), a2 50 (by decide)]
    exact w2
  obtain ⟨M4, e1, e2, e3, e4⟩ := d_low (b := b) (n := 7) (v := (sc S n : Int)) ow3 (by show 0 + 7 ≤ 4000; omega) (Or.inr (by show 0 + 7 ≤ 1000; omega)) (by omega) (by omega)
  rw [List.nil_append] at e4
  obtain ⟨M5, g1, g2, g3, g4⟩ := head (sc S n) 0 M4 (by omega) (by rw [e3 26 (by decide), e40]; exact a4) (by rw [e3 21 (by decide)]; exact hw3) (fun j hj => by
    rw [e2 53 (by decide), e2 56 (by decide), d2 53 (by decide), d2 56 (by decide), b2 53 (by decide)]
    exact ⟨(a5 j hj).1, b3' j hj⟩) e4
  have f4 : Fr [40, 50] M3 M5 := Fr_t e2 g2 (by decide)
  have g5 := G2_t e3 g3
  have f5 : Fr [40, 50, 53, 54, 55, 56, 57, 58, 59] M M5 := Fr_t (Fr_t (Fr_t (Fr_t (Fr_r _ _) a2 (by decide)) b2 (by decide)) d2 (by decide)) f4 (by decide)
  obtain ⟨M', t1, t2, t3, t4⟩ := body n 0 M5 (none) (by omega) (by rw [g5 14 (by decide), g03 14 (by decide)]; exact hn) (by rw [g5 26 (by decide), e40]; exact a4) (by rw [g5 21 (by decide)]; exact hw3) (fun j hj => by rw [f5 48 (by decide)]; exact (hS j hj).1) (fun k hk => by
    rw [f4 53 (by decide), f4 56 (by decide), f4 57 (by decide), d2 53 (by decide), d2 56 (by decide), b2 53 (by decide)]
    have q := p6 k hk
    have q2 := b3' k hk
    refine ⟨(a5 k hk).1, q2, ?_⟩
    rw [d3 k hk (by omega) (by omega)]
    exact cd_c b3' hk) g4
  refine ⟨M', ?_, Fr_t f5 t2 (by decide), fun k k1 k2 => by rw [t3 k k1, g5 k k1]; exact g03 k k2, t4⟩
  refine i_aload_n rfl rfl ?_
  -- at 1
  refine i_call (T := (124, zp_124)) rfl rfl (a1) rfl rfl rfl rfl rfl rfl rfl ?_
  try dsimp only
  refine i_aload_n rfl rfl ?_
  -- at 5
  refine i_call (T := (126, zp_126)) rfl rfl (b1) rfl rfl rfl rfl rfl rfl rfl ?_
  try dsimp only
  refine i_aload_n rfl rfl ?_
  -- at 9
  refine i_call (T := (127, zp_127)) rfl rfl (d1) rfl rfl rfl rfl rfl rfl rfl ?_
  try dsimp only
  refine i_aload_n rfl rfl ?_
  refine i_aload_n rfl rfl ?_
  refine i_getf rfl rfl rfl rfl (by decide) ?_
  -- at 17
  rw [e40, a4]
  refine i_bipush (n := 7) rfl (by unfold iR; omega) (by decide) ?_
  -- at 19
  refine i_call (T := (119, zp_119)) rfl rfl (e1) rfl rfl rfl rfl rfl rfl rfl ?_
  try dsimp only
  refine i_iconst (n := 0) rfl (by unfold iR; omega) ?_
  refine i_istore_n rfl (Nat.le_of_ble_eq_true rfl) rfl ?_
  -- at 24
  refine g1 _ ?_
  refine i_iconst (n := 0) rfl (by unfold iR; omega) ?_
  refine i_istore_n rfl (Nat.le_of_ble_eq_true rfl) rfl ?_
  -- at 63
  exact t1
