theorem rkN_c {L L' : Nat → Int} {l : Int} : ∀ {n : Nat}, (∀ k, k < n → L k = L' k) → rkN L l n = rkN L' l n := by
  intro n
  induction n with
  | zero => intro _; rfl
  | succ n ih =>
    intro h
    show rkN L l n + (if _ then 1 else 0) = rkN L' l n + (if _ then 1 else 0)
    rw [ih (fun k hk => h k (by omega)), h n (by omega)]
theorem fcN_c {L L' : Nat → Int} {n : Nat} (h : ∀ k, k < n → L k = L' k) : ∀ l, fcN L n l = fcN L' n l := by
  intro l
  induction l with
  | zero => rfl
  | succ l ih =>
    show 2 * fcN L n l + (rkN L _ n : Int) = 2 * fcN L' n l + (rkN L' _ n : Int)
    rw [ih, rkN_c h]
theorem cd_c {L L' : Nat → Int} {n k : Nat} (h : ∀ k, k < n → L k = L' k) (hk : k < n) : cd L n k = cd L' n k := by
  unfold cd
  rw [h k hk, fcN_c h, rkN_c (fun j hj => h j (by omega))]
theorem cd_0 {L : Nat → Int} {n k : Nat} (hn : n ≤ 127) : 0 ≤ cd L n k := by
  unfold cd
  have := (fcN_b (L := L) hn ((L k).toNat - 1)).1
  omega
theorem oc_pos {S : Nat → Int} {v : Int} : ∀ {n i : Nat}, i < n → S i = v → 0 < oc S v n := by
  intro n
  induction n with
  | zero => intro i hi; omega
  | succ n ih =>
    intro i hi e
    show 0 < oc S v n + (if S n = v then 1 else 0)
    by_cases q : i = n
    · rw [q] at e
      rw [if_pos e]
      omega
    · have := ih (i := i) (by omega) e
      omega
/-- the lengths of the codes, the bits -/
noncomputable def hl (S : Nat → Int) (n : Nat) : Nat → Int := (hs (sc S n) (wF S n) (sc S n - 1)).2.1
noncomputable def eH (S : Nat → Int) (n : Nat) : Nat → List Int
  | 0 => vb (sc S n : Int) 7
  | k + 1 => eH S n k ++ vb (sF S n k) 8 ++ vb (hl S n k) 4
def sx (f : Nat → Int) (v : Int) : Nat → Nat
  | 0 => 0
  | k + 1 => if f k = v then k else sx f v k
noncomputable def eP (S : Nat → Int) (n : Nat) : Nat → List Int
  | 0 => eH S n (sc S n)
  | i + 1 => eP S n i ++ vb (cd (hl S n) (sc S n) (sx (sF S n) (S i) (sc S n))) (hl S n (sx (sF S n) (S i) (sc S n))).toNat
theorem sx_ok {f : Nat → Int} {v : Int} : ∀ {c : Nat}, (∃ k, k < c ∧ f k = v) → sx f v c < c ∧ f (sx f v c) = v := by
  intro c
  induction c with
  | zero => rintro ⟨k, hk, _⟩; omega
  | succ c ih =>
    rintro ⟨k, hk, e⟩
    unfold sx
    by_cases q : f c = v
    · rw [if_pos q]
      exact ⟨by omega, q⟩
    · rw [if_neg q]
      have : k ≠ c := fun z => q (z ▸ e)
      obtain ⟨h1, h2⟩ := ih ⟨k, by omega, e⟩
      exact ⟨by omega, h2⟩
theorem p_ok {S : Nat → Int} {n : Nat} (hS : ∀ j, j < n → 0 ≤ S j ∧ S j < 256) (h96 : n ≤ 96) (h1 : 1 ≤ n) : 1 ≤ sc S n ∧ sc S n ≤ n ∧ sm (wF S n) (sc S n) = (n : Int) ∧ (∀ k, k < sc S n → 0 ≤ sF S n k ∧ sF S n k < 256 ∧ 1 ≤ wF S n k) ∧ (∀ i, i < n → sx (sF S n) (S i) (sc S n) < sc S n ∧ sF S n (sx (sF S n) (S i) (sc S n)) = S i) ∧ ∀ k, k < sc S n → 1 ≤ hl S n k ∧ hl S n k ≤ 9 := by
  obtain ⟨a1, a2, a3, a4, a5, a6⟩ := gs_ok (S := S) (n := n) 256
  have b1 := gs_96 (v := 256) hS (by omega)
  have b2 := soN_all n hS
  have b3 : ∀ i, i < n → ∃ k, k < sc S n ∧ sF S n k = S i := by
    intro i hi
    obtain ⟨u, eu⟩ := Int.eq_ofNat_of_zero_le (hS i hi).1
    have hu := hS i hi
    have := a6 u (by omega) (oc_pos hi eu)
    rw [eu]
    exact this
  have b4 : 1 ≤ sc S n := by
    obtain ⟨k, hk, _⟩ := b3 0 (by omega)
    omega
  have b5 : sm (wF S n) (sc S n) = (n : Int) := by rw [b2] at a4; exact a4
  refine ⟨b4, b1, b5, fun k hk => ⟨(a2 k hk).1, (a2 k hk).2.1, (a2 k hk).2.2.2⟩, fun i hi => sx_ok (b3 i hi), hs_len b4 (fun k hk => (a2 k hk).2.2.2) (by omega)⟩
theorem eH_len {S : Nat → Int} {n : Nat} : ∀ k, (eH S n k).length = 7 + 12 * k := by
  intro k
  induction k with
  | zero => exact vb_len _ _
  | succ k ih =>
    show (eH S n k ++ vb _ 8 ++ vb _ 4).length = _
    rw [List.length_append, List.length_append, vb_len, vb_len, ih]
    omega
theorem eP_len {S : Nat → Int} {n : Nat} (hS : ∀ j, j < n → 0 ≤ S j ∧ S j < 256) (h96 : n ≤ 96) (h1 : 1 ≤ n) : ∀ i, i ≤ n → (eP S n i).length ≤ 7 + 12 * sc S n + 9 * i := by
  intro i
  induction i with
  | zero => intro _; exact Nat.le_of_eq (eH_len _)
  | succ i ih =>
    intro hi
    have h2 := ih (by omega)
    obtain ⟨_, _, _, _, p5, p6⟩ := p_ok hS h96 h1
    have h3 := p6 _ (p5 i (by omega)).1
    show (eP S n i ++ vb _ _).length ≤ _
    rw [List.length_append, vb_len]
    omega
set_option maxRecDepth 100000 in
theorem c_pfE {b : Bool} {M : iM} {S : Nat → Int} {n : Nat} (hS : ∀ j, j < n → M 7 j = S j ∧ 0 ≤ S j ∧ S j < 256) (h96 : n ≤ 96) (h1 : 1 ≤ n) (h : BW M []) : ∃ M', irun none zp_96 0 (i_ent [iP 18, iP 7, iI (n : Int), iP 28] 6) [] (SH b) M 0 0 (some 1, SH b, M') ∧ Fr [18, 19, 20, 21, 22, 23, 24, 25, 26, 27, 28, 29] M M' ∧ BW M' (eP S n n) := by
  have hS2 : ∀ j, j < n → 0 ≤ S j ∧ S j < 256 := fun j hj => (hS j hj).2
  obtain ⟨p1, p2, p3, p4, p5, p6⟩ := p_ok hS2 h96 h1
  have body : ∀ (d i : Nat) (M1 : iM) (x : Option iV), i + d = n → (∀ j, j < n → M1 7 j = S j) → (∀ k, k < sc S n → M1 20 k = hl S n k ∧ M1 21 k = cd (hl S n) (sc S n) k) → (∀ u : Nat, u < 256 → (∃ k, k < sc S n ∧ sF S n k = (u : Int)) → M1 27 u = (sx (sF S n) (u : Int) (sc S n) : Int)) → BW M1 (eP S n i) → ∃ M', irun none zp_96 93 [some (iP 18), some (iP 7), some (iI (n : Int)), some (iP 28), some (iI (i : Int)), x] [] (SH b) M1 0 0 (some 1, SH b, M') ∧ Fr [28, 29] M1 M' ∧ BW M' (eP S n n) := by
    intro d
    induction d with
    | zero =>
      intro i M1 x hi _ _ _ hb
      obtain rfl : i = n := by omega
      refine ⟨M1, ?_, Fr_r _ _, hb⟩
      refine i_iload rfl rfl ?_
      refine i_iload_n rfl rfl ?_
      refine i_icmp_ge_t rfl (by first | omega | assumption) ?_
      refine i_iconst (n := 1) rfl (by unfold iR; omega) ?_
      -- at 135
      exact i_zreturn rfl rfl (by first | omega | assumption)
    | succ d ih =>
      intro i M1 x hi hs hk ht hb
      obtain ⟨u, eu⟩ := Int.eq_ofNat_of_zero_le (hS2 i (by omega)).1
      have hu := hS2 i (by omega)
      obtain ⟨q1, q2⟩ := p5 i (by omega)
      have e1 := ht u (by omega) ⟨_, q1, by rw [q2]; exact eu⟩
      have eu' : S i = (u : Int) := eu
      rw [← eu'] at e1
      have q3 := p6 _ q1
      have q4 := hk _ q1
      have hlen := eP_len hS2 h96 h1 i (by omega)
      obtain ⟨w, ew⟩ : ∃ w : Nat, sx (sF S n) (S i) (sc S n) = w := ⟨_, rfl⟩
      rw [ew] at e1 q1 q2 q3 q4
      obtain ⟨m, em⟩ := Int.eq_ofNat_of_zero_le (show 0 ≤ hl S n w by omega)
      obtain ⟨M2, k1, k2, k3⟩ := c_put (b := b) (n := m) (v := cd (hl S n) (sc S n) w) hb (by omega) (by omega) (cd_0 (by omega))
      obtain ⟨M', g1, g2, g3⟩ := ih (i + 1) M2 (some (iI (w : Int))) (by omega) (fun j hj => by rw [k2 7 (by decide)]; exact hs j hj) (fun k hk' => by rw [k2 20 (by decide), k2 21 (by decide)]; exact hk k hk') (fun v hv ev => by rw [k2 27 (by decide)]; exact ht v hv ev) (by
        show BW M2 (eP S n i ++ vb (cd (hl S n) (sc S n) (sx (sF S n) (S i) (sc S n))) (hl S n (sx (sF S n) (S i) (sc S n))).toNat)
        rw [ew, em]
        exact k3)
      refine ⟨M', ?_, Fr_t k2 g2 (by decide), g3⟩
      refine i_iload rfl rfl ?_
      refine i_iload_n rfl rfl ?_
      refine i_icmp_ge_f rfl (by first | omega | assumption) ?_
      refine i_aload_n rfl rfl ?_
      refine i_getr rfl rfl rfl rfl (by decide) rfl ?_
      refine i_aload_n rfl rfl ?_
      refine i_iload rfl rfl ?_
      refine i_iald rfl rfl (by first | omega | assumption) (by first | omega | assumption) (by decide) ?_
      -- at 107
      rw [show (i : Int).toNat = i by omega, hs i (by omega), eu]
      refine i_iald rfl rfl (by first | omega | assumption) (by first | omega | assumption) (by decide) ?_
      -- at 108
      rw [show (u : Int).toNat = u by omega, e1]
      refine i_istore rfl (Nat.le_of_ble_eq_true rfl) rfl ?_
      refine i_aload_n rfl rfl ?_
      refine i_aload_n rfl rfl ?_
      refine i_getr rfl rfl rfl rfl (by decide) rfl ?_
      refine i_iload rfl rfl ?_
      refine i_iald rfl rfl (by first | omega | assumption) (by first | omega | assumption) (by decide) ?_
      -- at 118
      rw [show (w : Int).toNat = w by omega, q4.2]
      refine i_aload_n rfl rfl ?_
      refine i_getr rfl rfl rfl rfl (by decide) rfl ?_
      refine i_iload rfl rfl ?_
      refine i_iald rfl rfl (by first | omega | assumption) (by first | omega | assumption) (by decide) ?_
      -- at 125
      rw [show (w : Int).toNat = w by omega, q4.1, em]
      refine i_call (T := (79, zp_79)) rfl rfl (k1) rfl rfl rfl rfl rfl rfl rfl ?_
      try dsimp only
      refine i_iinc rfl rfl (by unfold iR; omega) (Nat.le_of_ble_eq_true rfl) rfl ?_
      refine i_goto rfl ?_
      -- at 93
      exact g1
  have head : ∀ (d k : Nat) (M1 : iM), k + d = sc S n → M1 18 9 = (sc S n : Int) → (∀ j, j < sc S n → M1 19 j = sF S n j ∧ M1 20 j = hl S n j) → (∀ u : Nat, u < 256 → (∃ j, j < k ∧ sF S n j = (u : Int)) → M1 27 u = (sx (sF S n) (u : Int) k : Int)) → BW M1 (eH S n k) → ∃ M2, (∀ q, irun none zp_96 90 [some (iP 18), some (iP 7), some (iI (n : Int)), some (iP 28), some (iI (sc S n : Int)), none] [] (SH b) M2 0 0 q → irun none zp_96 36 [some (iP 18), some (iP 7), some (iI (n : Int)), some (iP 28), some (iI (k : Int)), none] [] (SH b) M1 0 0 q) ∧ Fr [27, 28, 29] M1 M2 ∧ (∀ u : Nat, u < 256 → (∃ j, j < sc S n ∧ sF S n j = (u : Int)) → M2 27 u = (sx (sF S n) (u : Int) (sc S n) : Int)) ∧ BW M2 (eH S n (sc S n)) := by
    intro d
    induction d with
    | zero =>
      intro k M1 hk hc _ ht hb
      obtain rfl : k = sc S n := by omega
      refine ⟨M1, fun q hq => ?_, Fr_r _ _, ht, hb⟩
      refine i_iload rfl rfl ?_
      refine i_aload_n rfl rfl ?_
      refine i_getf rfl rfl rfl rfl (by decide) ?_
      refine i_icmp_ge_t rfl (by first | omega | assumption) ?_
      -- at 90
      exact hq
    | succ d ih =>
      intro k M1 hk hc hf ht hb
      obtain ⟨f1, f2⟩ := hf k (by omega)
      obtain ⟨s1, s2, _⟩ := p4 k (by omega)
      obtain ⟨l1, l2⟩ := p6 k (by omega)
      have hlen := eH_len (S := S) (n := n) k
      obtain ⟨M2, k1, k2, k3⟩ := c_put (b := b) (n := 8) (v := sF S n k) hb (by omega) (by omega) s1
      have hlen2 : (eH S n k ++ vb (sF S n k) 8).length = 15 + 12 * k := by
        rw [List.length_append, vb_len, hlen]
        omega
      obtain ⟨M3, k4, k5, k6⟩ := c_put (b := b) (n := 4) (v := hl S n k) k3 (by omega) (by omega) (by omega)
      obtain ⟨u, eu⟩ := Int.eq_ofNat_of_zero_le s1
      have f3 : Fr [28, 29] M1 M3 := Fr_t k2 k5 (by decide)
      obtain ⟨M4, g1, g2, g3⟩ := ih (k + 1) (i_st M3 27 u (k : Int)) (by omega) (by show M3 18 9 = _; rw [f3 18 (by decide)]; exact hc) (fun j hj => by
        show M3 19 j = _ ∧ M3 20 j = _
        rw [f3 19 (by decide), f3 20 (by decide)]
        exact hf j hj) (fun v hv ⟨j, j1, j2⟩ => by
        show va_up (M3 27) u _ v = ((if sF S n k = (v : Int) then k else sx (sF S n) (v : Int) k : Nat) : Int)
        by_cases e : v = u
        · rw [e, up_s, if_pos eu]
        · rw [up_n e, if_neg (by omega), f3 27 (by decide)]
          refine ht v hv ⟨j, ?_, j2⟩
          have : j ≠ k := fun z => by rw [z] at j2; omega
          omega) (by
        obtain ⟨w1, w2, w3⟩ := k6
        exact ⟨w1, w2, w3⟩)
      refine ⟨M4, fun q hq => ?_, Fr_t (Fr_st (Fr_t (Fr_r _ _) f3 (by decide)) (by decide)) g2 (by decide), g3⟩
      have g1 := g1 q hq
      refine i_iload rfl rfl ?_
      refine i_aload_n rfl rfl ?_
      refine i_getf rfl rfl rfl rfl (by decide) ?_
      refine i_icmp_ge_f rfl (by first | omega | assumption) ?_
      refine i_aload_n rfl rfl ?_
      refine i_aload_n rfl rfl ?_
      refine i_getr rfl rfl rfl rfl (by decide) rfl ?_
      refine i_iload rfl rfl ?_
      refine i_iald rfl rfl (by first | omega | assumption) (by first | omega | assumption) (by decide) ?_
      -- at 53
      rw [show (k : Int).toNat = k by omega, f1]
      refine i_bipush (n := 8) rfl (by unfold iR; omega) (by decide) ?_
      -- at 55
      refine i_call (T := (79, zp_79)) rfl rfl (k1) rfl rfl rfl rfl rfl rfl rfl ?_
      try dsimp only
      refine i_aload_n rfl rfl ?_
      refine i_aload_n rfl rfl ?_
      refine i_getr rfl rfl rfl rfl (by decide) rfl ?_
      refine i_iload rfl rfl ?_
      refine i_iald rfl rfl (by first | omega | assumption) (by first | omega | assumption) (by decide) ?_
      -- at 66
      rw [show (k : Int).toNat = k by omega, k2 20 (by decide), f2]
      refine i_iconst (n := 4) rfl (by unfold iR; omega) ?_
      -- at 67
      refine i_call (T := (79, zp_79)) rfl rfl (k4) rfl rfl rfl rfl rfl rfl rfl ?_
      try dsimp only
      refine i_aload_n rfl rfl ?_
      refine i_getr rfl rfl rfl rfl (by decide) rfl ?_
      refine i_aload_n rfl rfl ?_
      refine i_getr rfl rfl rfl rfl (by decide) rfl ?_
      refine i_iload rfl rfl ?_
      refine i_iald rfl rfl (by first | omega | assumption) (by first | omega | assumption) (by decide) ?_
      -- at 81
      rw [show (k : Int).toNat = k by omega, f3 19 (by decide), f1, eu]
      refine i_iload rfl rfl ?_
      refine i_iast rfl rfl (by first | omega | assumption) (by first | omega | assumption) ?_
      refine i_iinc rfl rfl (by unfold iR; omega) (Nat.le_of_ble_eq_true rfl) rfl ?_
      refine i_goto rfl ?_
      -- at 36
      rw [show (u : Int).toNat = u by omega]
      exact g1
  obtain ⟨M1, a1, a2, a3, a4⟩ := c_gather (b := b) hS h96
  obtain ⟨M2, b1, b2, b3⟩ := c_makeLengths (b := b) (W := wF S n) a3 p1 (by omega) (fun k hk => ⟨(a4 k hk).2, (p4 k hk).2.2⟩) (by omega)
  have n2 : M2 18 9 = (sc S n : Int) := by rw [b2 18 (by decide)]; exact a3
  obtain ⟨M3, d1, d2, _, _, d3⟩ := c_makeCodes (b := b) n2 (by omega)
  have b3' : ∀ k, k < sc S n → M2 20 k = hl S n k := b3
  have bw3 : BW M3 [] := by
    obtain ⟨w1, w2, w3⟩ := h
    exact ⟨by rw [d2 28 (by decide), b2 28 (by decide), a2 28 (by decide)]; exact w1, fun k hk => by simp at hk, w3⟩
  obtain ⟨M4, e1, e2, e3⟩ := c_put (b := b) (n := 7) (v := (sc S n : Int)) bw3 (by show 0 + 7 ≤ 2048; omega) (by omega) (by omega)
  obtain ⟨M5, g1, g2, g3, g4⟩ := head (sc S n) 0 M4 (by omega) (by rw [e2 18 (by decide), d2 18 (by decide)]; exact n2) (fun j hj => by
    rw [e2 19 (by decide), e2 20 (by decide), d2 19 (by decide), d2 20 (by decide), b2 19 (by decide)]
    exact ⟨(a4 j hj).1, b3' j hj⟩) (fun u hu ⟨j, j1, _⟩ => by omega) (by
    rw [List.nil_append] at e3
    exact e3)
  have f5 : Fr [18, 19, 20, 21, 22, 23, 24, 25, 26, 27, 28, 29] M M5 := Fr_t (Fr_t (Fr_t (Fr_t (Fr_t (Fr_r _ _) a2 (by decide)) b2 (by decide)) d2 (by decide)) e2 (by decide)) g2 (by decide)
  obtain ⟨M', t1, t2, t3⟩ := body n 0 M5 none (by omega) (fun j hj => by rw [f5 7 (by decide)]; exact (hS j hj).1) (fun k hk => by
    rw [g2 20 (by decide), g2 21 (by decide), e2 20 (by decide), e2 21 (by decide), d2 20 (by decide)]
    have q := p6 k hk
    have q2 := b3' k hk
    refine ⟨q2, ?_⟩
    rw [(d3 k hk (by omega) (by omega)).2]
    exact cd_c b3' hk) g3 g4
  refine ⟨M', ?_, Fr_t f5 t2 (by decide), t3⟩
  refine i_iload_n rfl rfl ?_
  refine i_if_eq_f rfl (by first | omega | assumption) ?_
  refine i_aload_n rfl rfl ?_
  refine i_aload_n rfl rfl ?_
  refine i_iload_n rfl rfl ?_
  -- at 7
  refine i_call (T := (97, zp_97)) rfl rfl (a1) rfl rfl rfl rfl rfl rfl rfl ?_
  try dsimp only
  show irun none zp_96 10 _ (iI ((1 : Int)) :: _) _ _ 0 0 _
  refine i_if_ne_t rfl (by first | omega | assumption) ?_
  refine i_aload_n rfl rfl ?_
  -- at 16
  refine i_call (T := (98, zp_98)) rfl rfl (b1) rfl rfl rfl rfl rfl rfl rfl ?_
  try dsimp only
  refine i_aload_n rfl rfl ?_
  -- at 20
  refine i_call (T := (101, zp_101)) rfl rfl (d1) rfl rfl rfl rfl rfl rfl rfl ?_
  try dsimp only
  refine i_aload_n rfl rfl ?_
  refine i_aload_n rfl rfl ?_
  refine i_getf rfl rfl rfl rfl (by decide) ?_
  -- at 28
  rw [d2 18 (by decide), n2]
  refine i_bipush (n := 7) rfl (by unfold iR; omega) (by decide) ?_
  -- at 30
  refine i_call (T := (79, zp_79)) rfl rfl (e1) rfl rfl rfl rfl rfl rfl rfl ?_
  try dsimp only
  refine i_iconst (n := 0) rfl (by unfold iR; omega) ?_
  refine i_istore rfl (Nat.le_of_ble_eq_true rfl) rfl ?_
  -- at 36
  refine g1 _ ?_
  refine i_iconst (n := 0) rfl (by unfold iR; omega) ?_
  refine i_istore rfl (Nat.le_of_ble_eq_true rfl) rfl ?_
  -- at 93
  exact t1
