def Gk (M M' : iM) : Prop := ∀ k, k ≠ 36 → k ≠ 38 → k ≠ 39 → M' 40 k = M 40 k
theorem Gk_r (M : iM) : Gk M M := fun _ _ _ _ => rfl
theorem Gk_t {M M' M'' : iM} (h : Gk M M') (h' : Gk M' M'') : Gk M M'' := fun k a b c => (h' k a b c).trans (h k a b c)
theorem Gk_40 {M M' : iM} (h : Gk M M') : G40 M M' := fun k hk => h k (by omega) (by omega) (by omega)
set_option maxRecDepth 100000 in
theorem d_oneI {b : Bool} {M : iM} {L : Nat → Int} {n : Nat} {l v : Int} {q : Option Int × List zS × iM} (hn : M 40 26 = (n : Int)) (h127 : n ≤ 127) (hL : ∀ i, i < n → M 56 i = L i ∧ M 57 i = cd L n i)
    (hq : irun none zp_136 79 [some (iP 40), some (iI v), some (iI (fsN L n l v n)), some (iI l), some (iI (n : Int))] [] (SH b) M 0 0 q) :
    ∀ c k : Nat, k + c = n → irun none zp_136 35 [some (iP 40), some (iI v), some (iI (fsN L n l v k)), some (iI l), some (iI (k : Int))] [] (SH b) M 0 0 q := by
  intro c
  induction c with
  | zero =>
    intro k hk
    obtain rfl : k = n := by omega
    refine i_iload rfl rfl ?_
    refine i_aload_n rfl rfl ?_
    refine i_getf rfl rfl rfl rfl (by decide) ?_
    refine i_icmp_ge_t rfl (by first | omega | assumption) ?_
    -- at 79
    exact hq
  | succ c ih =>
    intro k hk
    have hnx := ih (k + 1) (by omega)
    obtain ⟨e1, e2⟩ := hL k (by omega)
    unfold fsN at hnx
    refine i_iload rfl rfl ?_
    refine i_aload_n rfl rfl ?_
    refine i_getf rfl rfl rfl rfl (by decide) ?_
    refine i_icmp_ge_f rfl (by first | omega | assumption) ?_
    refine i_aload_n rfl rfl ?_
    refine i_getr rfl rfl rfl rfl (by decide) rfl ?_
    refine i_iload rfl rfl ?_
    refine i_iald rfl rfl (by first | omega | assumption) (by first | omega | assumption) (by decide) ?_
    -- at 51
    rw [show (k : Int).toNat = k by omega, e1]
    by_cases c1 : L k = l
    · by_cases c2 : cd L n k = v
      · rw [if_pos ⟨c1, c2⟩] at hnx
        refine i_iload_n rfl rfl ?_
        refine i_icmp_ne_f rfl (by first | omega | assumption) ?_
        refine i_aload_n rfl rfl ?_
        refine i_getr rfl rfl rfl rfl (by decide) rfl ?_
        refine i_iload rfl rfl ?_
        refine i_iald rfl rfl (by first | omega | assumption) (by first | omega | assumption) (by decide) ?_
        -- at 62
        rw [show (k : Int).toNat = k by omega, e2]
        refine i_iload_n rfl rfl ?_
        refine i_icmp_ne_f rfl (by first | omega | assumption) ?_
        refine i_iload rfl rfl ?_
        refine i_goto rfl ?_
        refine i_istore_n rfl (Nat.le_of_ble_eq_true rfl) rfl ?_
        refine i_iinc rfl rfl (by unfold iR; omega) (Nat.le_of_ble_eq_true rfl) rfl ?_
        refine i_goto rfl ?_
        -- at 35
        exact hnx
      · rw [if_neg (fun q => c2 q.2)] at hnx
        refine i_iload_n rfl rfl ?_
        refine i_icmp_ne_f rfl (by first | omega | assumption) ?_
        refine i_aload_n rfl rfl ?_
        refine i_getr rfl rfl rfl rfl (by decide) rfl ?_
        refine i_iload rfl rfl ?_
        refine i_iald rfl rfl (by first | omega | assumption) (by first | omega | assumption) (by decide) ?_
        -- at 62
        rw [show (k : Int).toNat = k by omega, e2]
        refine i_iload_n rfl rfl ?_
        refine i_icmp_ne_t rfl (by first | omega | assumption) ?_
        refine i_iload_n rfl rfl ?_
        refine i_istore_n rfl (Nat.le_of_ble_eq_true rfl) rfl ?_
        refine i_iinc rfl rfl (by unfold iR; omega) (Nat.le_of_ble_eq_true rfl) rfl ?_
        refine i_goto rfl ?_
        -- at 35
        exact hnx
    · rw [if_neg (fun q => c1 q.1)] at hnx
      refine i_iload_n rfl rfl ?_
      refine i_icmp_ne_t rfl (by first | omega | assumption) ?_
      refine i_iload_n rfl rfl ?_
      refine i_istore_n rfl (Nat.le_of_ble_eq_true rfl) rfl ?_
      refine i_iinc rfl rfl (by unfold iR; omega) (Nat.le_of_ble_eq_true rfl) rfl ?_
      refine i_goto rfl ?_
      -- at 35
      exact hnx
theorem fs_b {L : Nat → Int} {n : Nat} {l v : Int} : ∀ k, -1 ≤ fsN L n l v k ∧ fsN L n l v k < k := by
  intro k
  induction k with
  | zero => exact ⟨Int.le_refl _, by show (-1 : Int) < 0; decide⟩
  | succ k ih =>
    unfold fsN
    split <;> omega
/-- what a symbol taken back leaves -/
def Po (M M' : iM) (B : Nat → Int) (m g : Nat) (S : Nat → Int) (o : Option (Nat × Nat)) : Prop := Fr [40, 61] M M' ∧ Gk M M' ∧ (match o with
  | some s => RB M' B m s.2 ∧ s.2 ≤ 8 * m ∧ M' 40 38 = ((g + 1 : Nat) : Int) ∧ M' 40 39 = 0 ∧ M' 61 = va_up (M 61) g (S s.1)
  | none => M' 40 39 = 1 ∧ M' 40 38 = (g : Int))
set_option maxRecDepth 100000 in
theorem d_oneL {b : Bool} {B L S : Nat → Int} {m n g : Nat} (hm : m ≤ 256) (h127 : n ≤ 127) (hg : g < 256) : ∀ (c l : Nat) (v : Int) (a : Nat) (l4 : Option iV) (M : iM), l + c = 15 → 0 ≤ v → v < 2 ^ l → a ≤ 8 * m → RB M B m a → M 40 38 = (g : Int) → M 40 39 = 0 → M 40 26 = (n : Int) → (∀ i, i < n → M 56 i = L i ∧ M 57 i = cd L n i) → (∀ i, i < n → M 53 i = S i) →
    ∃ M', irun none zp_136 6 [some (iP 40), some (iI v), some (iI (-1)), some (iI ((l + 1 : Nat) : Int)), l4] [] (SH b) M 0 0 (none, SH b, M') ∧ Po M M' B m g S (syS B m L n c l v a) := by
  have tailB : ∀ (M : iM) (v f l : Int) (l4 : Option iV), (M 40 39 = 1 ∨ (M 40 39 = 0 ∧ f < 0)) → irun none zp_136 85 [some (iP 40), some (iI v), some (iI f), some (iI l), l4] [] (SH b) M 0 0 (none, SH b, i_st M 40 39 1) := by
    intro M v f l l4 h
    have h1 : (i_st M 40 39 1) 40 39 = 1 := rfl
    rcases h with h | ⟨h, hf⟩
    · refine i_aload_n rfl rfl ?_
      refine i_aload_n rfl rfl ?_
      refine i_getf rfl rfl rfl rfl (by decide) ?_
      refine i_if_ne_t rfl (by first | omega | assumption) ?_
      refine i_iconst (n := 1) rfl (by unfold iR; omega) ?_
      refine i_goto rfl ?_
      refine i_putz rfl rfl rfl rfl (by first | omega | assumption) ?_
      -- at 105
      refine i_aload_n rfl rfl ?_
      refine i_getf rfl rfl rfl rfl (by decide) ?_
      refine i_if_ne_t rfl (by first | omega | assumption) ?_
      -- at 122
      exact i_vreturn rfl rfl
    · refine i_aload_n rfl rfl ?_
      refine i_aload_n rfl rfl ?_
      refine i_getf rfl rfl rfl rfl (by decide) ?_
      refine i_if_ne_f rfl (by first | omega | assumption) ?_
      refine i_iload_n rfl rfl ?_
      refine i_if_ge_f rfl (by first | omega | assumption) ?_
      refine i_iconst (n := 1) rfl (by unfold iR; omega) ?_
      refine i_goto rfl ?_
      refine i_putz rfl rfl rfl rfl (by first | omega | assumption) ?_
      -- at 105
      refine i_aload_n rfl rfl ?_
      refine i_getf rfl rfl rfl rfl (by decide) ?_
      refine i_if_ne_t rfl (by first | omega | assumption) ?_
      -- at 122
      exact i_vreturn rfl rfl
  intro c
  induction c with
  | zero =>
    intro l v a l4 M hl hv1 hv2 ha hB h38 h39 h26 hL hS
    obtain rfl : l = 15 := by omega
    refine ⟨i_st M 40 39 1, ?_, Fr_st (Fr_r _ _) (by decide), fun k _ _ k3 => up_n k3, rfl, h38⟩
    refine i_iload_n rfl rfl ?_
    refine i_bipush (n := 15) rfl (by unfold iR; omega) (by decide) ?_
    refine i_icmp_gt_t rfl (by first | omega | assumption) ?_
    -- at 85
    exact tailB M v (-1) _ l4 (Or.inr ⟨h39, by decide⟩)
  | succ c ih =>
    intro l v a l4 M hl hv1 hv2 ha hB h38 h39 h26 hL hS
    have p2 := p2_c l (by omega)
    have vb := bt_b B a
    by_cases h : a < 8 * m
    · have hb := d_bit (b := b) hB hm h
      obtain ⟨M1, hM1⟩ : ∃ M1, M1 = va_up M 40 (va_up (M 40) 36 ((a + 1 : Nat) : Int)) := ⟨_, rfl⟩
      rw [← hM1] at hb
      have f1 : Fr [40] M M1 := by rw [hM1]; exact Fr_up (Fr_r _ _) (by decide)
      have r1 : RB M1 B m (a + 1) := by rw [hM1]; exact ⟨rfl, hB.2.1, hB.2.2⟩
      have q1 : ∀ k, k ≠ 36 → M1 40 k = M 40 k := fun k hk => by rw [hM1]; exact up_n hk
      have L1 : ∀ i, i < n → M1 56 i = L i ∧ M1 57 i = cd L n i := by rw [f1 56 (by decide), f1 57 (by decide)]; exact hL
      have S1 : ∀ i, i < n → M1 53 i = S i := by rw [f1 53 (by decide)]; exact hS
      have n1 : M1 40 26 = (n : Int) := (q1 26 (by decide)).trans h26
      have b1 : M1 40 39 = 0 := (q1 39 (by decide)).trans h39
      have g1 : M1 40 38 = (g : Int) := (q1 38 (by decide)).trans h38
      have hpre : ∀ q, irun none zp_136 79 [some (iP 40), some (iI (2 * v + bt B a)), some (iI (fsN L n ((l + 1 : Nat) : Int) (2 * v + bt B a) n)), some (iI ((l + 1 : Nat) : Int)), some (iI (n : Int))] [] (SH b) M1 0 0 q → irun none zp_136 6 [some (iP 40), some (iI v), some (iI (-1)), some (iI ((l + 1 : Nat) : Int)), l4] [] (SH b) M 0 0 q := by
        intro q hq
        have hin := d_oneI (b := b) n1 h127 L1 hq n 0 (by omega)
        refine i_iload_n rfl rfl ?_
        refine i_bipush (n := 15) rfl (by unfold iR; omega) (by decide) ?_
        refine i_icmp_gt_f rfl (by first | omega | assumption) ?_
        refine i_iload_n rfl rfl ?_
        refine i_if_ge_f rfl (by first | omega | assumption) ?_
        refine i_aload_n rfl rfl ?_
        refine i_getf rfl rfl rfl rfl (by decide) ?_
        refine i_if_ne_f rfl (by first | omega | assumption) ?_
        refine i_iconst (n := 2) rfl (by unfold iR; omega) ?_
        refine i_iload_n rfl rfl ?_
        refine i_imul rfl (by unfold iR; omega) ?_
        refine i_aload_n rfl rfl ?_
        -- at 27
        refine i_call (T := (131, zp_131)) rfl rfl (hb) rfl rfl rfl rfl rfl rfl rfl ?_
        try dsimp only
        show irun none zp_136 30 _ (iI (bt B a) :: _) _ _ 0 0 _
        refine i_iadd rfl (by unfold iR; omega) ?_
        refine i_istore_n rfl (Nat.le_of_ble_eq_true rfl) rfl ?_
        refine i_iconst (n := 0) rfl (by unfold iR; omega) ?_
        refine i_istore rfl (Nat.le_of_ble_eq_true rfl) rfl ?_
        -- at 35
        exact hin
      have fb := fs_b (L := L) (n := n) (l := ((l + 1 : Nat) : Int)) (v := 2 * v + bt B a) n
      by_cases hf : 0 ≤ fsN L n ((l + 1 : Nat) : Int) (2 * v + bt B a) n
      · have es : syS B m L n (c + 1) l v a = some ((fsN L n ((l + 1 : Nat) : Int) (2 * v + bt B a) n).toNat, a + 1) := by
          unfold syS
          rw [if_pos h, if_pos hf]
        rw [es]
        obtain ⟨k, ek⟩ := Int.eq_ofNat_of_zero_le hf
        rw [ek] at fb
        obtain ⟨M2, k1, k2, k3, k4, k5⟩ := d_give (b := b) (M := i_st M1 40 39 0) (v := S k) (g := g) g1 hg
        refine ⟨M2, hpre _ ?_, Fr_t (Fr_st (Fr_t (Fr_r _ _) f1 (by decide)) (by decide)) k2 (by decide), fun x x1 x2 x3 => ?_, ?_⟩
        · rw [ek]
          have hst : ∀ q, irun none zp_136 85 [some (iP 40), some (iI (2 * v + bt B a)), some (iI (k : Int)), some (iI (((l + 1 : Nat) : Int) + 1)), some (iI (n : Int))] [] (SH b) M1 0 0 q → irun none zp_136 79 [some (iP 40), some (iI (2 * v + bt B a)), some (iI (k : Int)), some (iI ((l + 1 : Nat) : Int)), some (iI (n : Int))] [] (SH b) M1 0 0 q := by
            intro q hq
            by_cases c15 : l + 1 + 1 ≤ 15
            · refine i_iinc rfl rfl (by unfold iR; omega) (Nat.le_of_ble_eq_true rfl) rfl ?_
              refine i_goto rfl ?_
              refine i_iload_n rfl rfl ?_
              refine i_bipush (n := 15) rfl (by unfold iR; omega) (by decide) ?_
              refine i_icmp_gt_f rfl (by first | omega | assumption) ?_
              refine i_iload_n rfl rfl ?_
              refine i_if_ge_t rfl (by first | omega | assumption) ?_
              -- at 85
              exact hq
            · refine i_iinc rfl rfl (by unfold iR; omega) (Nat.le_of_ble_eq_true rfl) rfl ?_
              refine i_goto rfl ?_
              refine i_iload_n rfl rfl ?_
              refine i_bipush (n := 15) rfl (by unfold iR; omega) (by decide) ?_
              refine i_icmp_gt_t rfl (by first | omega | assumption) ?_
              -- at 85
              exact hq
          refine hst _ ?_
          have bz9 : (i_st M1 40 39 0) 40 39 = 0 := rfl
          refine i_aload_n rfl rfl ?_
          refine i_aload_n rfl rfl ?_
          refine i_getf rfl rfl rfl rfl (by decide) ?_
          refine i_if_ne_f rfl (by first | omega | assumption) ?_
          refine i_iload_n rfl rfl ?_
          refine i_if_ge_t rfl (by first | omega | assumption) ?_
          refine i_iconst (n := 0) rfl (by unfold iR; omega) ?_
          refine i_putz rfl rfl rfl rfl (by first | omega | assumption) ?_
          -- at 105
          refine i_aload_n rfl rfl ?_
          refine i_getf rfl rfl rfl rfl (by decide) ?_
          refine i_if_ne_f rfl (by first | omega | assumption) ?_
          refine i_aload_n rfl rfl ?_
          refine i_aload_n rfl rfl ?_
          refine i_getr rfl rfl rfl rfl (by decide) rfl ?_
          refine i_iload_n rfl rfl ?_
          refine i_iald rfl rfl (by first | omega | assumption) (by first | omega | assumption) (by decide) ?_
          -- at 119
          rw [show (k : Int).toNat = k by omega]
          rw [show (i_st M1 40 39 0) 53 k = S k from S1 k (by omega)]
          refine i_call (T := (133, zp_133)) rfl rfl (k1) rfl rfl rfl rfl rfl rfl rfl ?_
          try dsimp only
          -- at 122
          exact i_vreturn rfl rfl
        · rw [k5 x x2]
          show va_up (M1 40) 39 0 x = _
          rw [up_n x3]
          exact q1 x x1
        · try dsimp only
          rw [ek, show (k : Int).toNat = k by omega]
          refine ⟨RB_c r1 (k5 36 (by decide)) (k5 37 (by decide)) (k2 60 (by decide)), by omega, k4, (k5 39 (by decide)).trans rfl, ?_⟩
          rw [k3]
          show va_up (M1 61) g (S k) = _
          rw [f1 61 (by decide)]
      · have es : syS B m L n (c + 1) l v a = syS B m L n c (l + 1) (2 * v + bt B a) (a + 1) := by
          conv => lhs; unfold syS
          rw [if_pos h, if_neg hf]
        rw [es]
        have em : fsN L n ((l + 1 : Nat) : Int) (2 * v + bt B a) n = -1 := by omega
        rw [em] at hpre
        obtain ⟨M', k1, k2, k3, k4⟩ := ih (l + 1) (2 * v + bt B a) (a + 1) (some (iI (n : Int))) M1 (by omega) (by omega) (by rw [p2_s]; omega) (by omega) r1 g1 b1 n1 L1 S1
        refine ⟨M', hpre _ ?_, Fr_t (Fr_t (Fr_r _ _) f1 (by decide)) k2 (by decide), Gk_t (fun x x1 _ _ => q1 x x1) k3, ?_⟩
        · refine i_iinc rfl rfl (by unfold iR; omega) (Nat.le_of_ble_eq_true rfl) rfl ?_
          refine i_goto rfl ?_
          -- at 6
          exact k1
        · rw [f1 61 (by decide)] at k4
          exact k4
    · have es : syS B m L n (c + 1) l v a = none := by
        unfold syS
        rw [if_neg h]
      rw [es]
      have hb := d_bitF (b := b) hB hm ha (by omega)
      obtain ⟨M1, hM1⟩ : ∃ M1, M1 = va_up M 40 (va_up (M 40) 39 1) := ⟨_, rfl⟩
      rw [← hM1] at hb
      have f1 : Fr [40] M M1 := by rw [hM1]; exact Fr_up (Fr_r _ _) (by decide)
      have q1 : ∀ k, k ≠ 39 → M1 40 k = M 40 k := fun k hk => by rw [hM1]; exact up_n hk
      have L1 : ∀ i, i < n → M1 56 i = L i ∧ M1 57 i = cd L n i := by rw [f1 56 (by decide), f1 57 (by decide)]; exact hL
      have n1 : M1 40 26 = (n : Int) := (q1 26 (by decide)).trans h26
      have b1 : M1 40 39 = 1 := by rw [hM1]; rfl
      have fb := fs_b (L := L) (n := n) (l := ((l + 1 : Nat) : Int)) (v := 2 * v + 0) n
      refine ⟨i_st M1 40 39 1, ?_, Fr_st (Fr_t (Fr_r _ _) f1 (by decide)) (by decide), fun x x1 x2 x3 => ?_, rfl, (q1 38 (by decide)).trans h38⟩
      · have hend : irun none zp_136 79 [some (iP 40), some (iI (2 * v + 0)), some (iI (fsN L n ((l + 1 : Nat) : Int) (2 * v + 0) n)), some (iI ((l + 1 : Nat) : Int)), some (iI (n : Int))] [] (SH b) M1 0 0 (none, SH b, i_st M1 40 39 1) := by
          by_cases c15 : l + 1 + 1 ≤ 15
          · by_cases c0 : 0 ≤ fsN L n ((l + 1 : Nat) : Int) (2 * v + 0) n
            · refine i_iinc rfl rfl (by unfold iR; omega) (Nat.le_of_ble_eq_true rfl) rfl ?_
              refine i_goto rfl ?_
              refine i_iload_n rfl rfl ?_
              refine i_bipush (n := 15) rfl (by unfold iR; omega) (by decide) ?_
              refine i_icmp_gt_f rfl (by first | omega | assumption) ?_
              refine i_iload_n rfl rfl ?_
              refine i_if_ge_t rfl (by first | omega | assumption) ?_
              -- at 85
              exact tailB M1 _ _ _ _ (Or.inl b1)
            · refine i_iinc rfl rfl (by unfold iR; omega) (Nat.le_of_ble_eq_true rfl) rfl ?_
              refine i_goto rfl ?_
              refine i_iload_n rfl rfl ?_
              refine i_bipush (n := 15) rfl (by unfold iR; omega) (by decide) ?_
              refine i_icmp_gt_f rfl (by first | omega | assumption) ?_
              refine i_iload_n rfl rfl ?_
              refine i_if_ge_f rfl (by first | omega | assumption) ?_
              refine i_aload_n rfl rfl ?_
              refine i_getf rfl rfl rfl rfl (by decide) ?_
              refine i_if_ne_t rfl (by first | omega | assumption) ?_
              -- at 85
              exact tailB M1 _ _ _ _ (Or.inl b1)
          · refine i_iinc rfl rfl (by unfold iR; omega) (Nat.le_of_ble_eq_true rfl) rfl ?_
            refine i_goto rfl ?_
            refine i_iload_n rfl rfl ?_
            refine i_bipush (n := 15) rfl (by unfold iR; omega) (by decide) ?_
            refine i_icmp_gt_t rfl (by first | omega | assumption) ?_
            -- at 85
            exact tailB M1 _ _ _ _ (Or.inl b1)
        have hin := d_oneI (b := b) n1 h127 L1 hend n 0 (by omega)
        refine i_iload_n rfl rfl ?_
        refine i_bipush (n := 15) rfl (by unfold iR; omega) (by decide) ?_
        refine i_icmp_gt_f rfl (by first | omega | assumption) ?_
        refine i_iload_n rfl rfl ?_
        refine i_if_ge_f rfl (by first | omega | assumption) ?_
        refine i_aload_n rfl rfl ?_
        refine i_getf rfl rfl rfl rfl (by decide) ?_
        refine i_if_ne_f rfl (by first | omega | assumption) ?_
        refine i_iconst (n := 2) rfl (by unfold iR; omega) ?_
        refine i_iload_n rfl rfl ?_
        refine i_imul rfl (by unfold iR; omega) ?_
        refine i_aload_n rfl rfl ?_
        -- at 27
        refine i_call (T := (131, zp_131)) rfl rfl (hb) rfl rfl rfl rfl rfl rfl rfl ?_
        try dsimp only
        show irun none zp_136 30 _ (iI (0) :: _) _ _ 0 0 _
        refine i_iadd rfl (by unfold iR; omega) ?_
        refine i_istore_n rfl (Nat.le_of_ble_eq_true rfl) rfl ?_
        refine i_iconst (n := 0) rfl (by unfold iR; omega) ?_
        refine i_istore rfl (Nat.le_of_ble_eq_true rfl) rfl ?_
        -- at 35
        exact hin
      · show va_up (M1 40) 39 1 x = _
        rw [up_n x3]
        exact q1 x x3
set_option maxRecDepth 100000 in
theorem d_pbL {b : Bool} {B L S : Nat → Int} {m n all : Nat} (hm : m ≤ 256) (h127 : n ≤ 127) (hall : all ≤ 255) : ∀ (c i a : Nat) (R : Nat → Int) (l2 : Option iV) (M : iM), all ≤ i + c → i ≤ all → a ≤ 8 * m → RB M B m a → M 40 38 = (i : Int) → M 40 39 = 0 → M 40 26 = (n : Int) → (∀ i, i < n → M 56 i = L i ∧ M 57 i = cd L n i) → (∀ i, i < n → M 53 i = S i) → (∀ j, j < i → M 61 j = R j) →
    ∃ M', irun none zp_135 137 [some (iP 40), some (iI (all : Int)), l2] [] (SH b) M 0 0 (none, SH b, M') ∧ Fr [40, 61] M M' ∧ Gk M M' ∧ (match pdN B m all L n S c i a R with
      | some R' => M' 40 39 = 0 ∧ M' 40 38 = (all : Int) ∧ ∀ j, j < all → M' 61 j = R' j
      | none => M' 40 39 = 1 ∧ ∃ g : Nat, M' 40 38 = (g : Int) ∧ g ≤ all) := by
  have done : ∀ (c i a : Nat) (R : Nat → Int) (l2 : Option iV) (M : iM), ¬ i < all → i ≤ all → M 40 38 = (i : Int) → M 40 39 = 0 → (∀ j, j < i → M 61 j = R j) → ∃ M', irun none zp_135 137 [some (iP 40), some (iI (all : Int)), l2] [] (SH b) M 0 0 (none, SH b, M') ∧ Fr [40, 61] M M' ∧ Gk M M' ∧ (match pdN B m all L n S c i a R with
      | some R' => M' 40 39 = 0 ∧ M' 40 38 = (all : Int) ∧ ∀ j, j < all → M' 61 j = R' j
      | none => M' 40 39 = 1 ∧ ∃ g : Nat, M' 40 38 = (g : Int) ∧ g ≤ all) := by
    intro c i a R l2 M h1 h2 h3 h4 h5
    rw [pdN_e h1]
    refine ⟨M, ?_, Fr_r _ _, Gk_r _, h4, by omega, fun j hj => h5 j (by omega)⟩
    refine i_aload_n rfl rfl ?_
    refine i_getf rfl rfl rfl rfl (by decide) ?_
    refine i_iload_n rfl rfl ?_
    refine i_icmp_ge_t rfl (by first | omega | assumption) ?_
    -- at 159
    exact i_vreturn rfl rfl
  intro c
  induction c with
  | zero =>
    intro i a R l2 M h1 h2 h3 h4 h5 h6 h7 h8 h9 h10
    exact done 0 i a R l2 M (by omega) h2 h5 h6 h10
  | succ c ih =>
    intro i a R l2 M h1 h2 h3 h4 h5 h6 h7 h8 h9 h10
    by_cases hi : i < all
    · obtain ⟨M1, g1, f1, q1, p1⟩ := d_oneL (b := b) (B := B) (L := L) (S := S) (g := i) hm h127 (by omega) 15 0 0 a none M (by omega) (by decide) (by decide) h3 h4 h5 h6 h7 h8 h9
      have hone : irun none zp_136 0 (i_ent [iP 40] 5) [] (SH b) M 0 0 (none, SH b, M1) := by
        refine i_iconst (n := 0) rfl (by unfold iR; omega) ?_
        refine i_istore_n rfl (Nat.le_of_ble_eq_true rfl) rfl ?_
        refine i_iconst (n := -1) rfl (by unfold iR; omega) ?_
        refine i_istore_n rfl (Nat.le_of_ble_eq_true rfl) rfl ?_
        refine i_iconst (n := 1) rfl (by unfold iR; omega) ?_
        refine i_istore_n rfl (Nat.le_of_ble_eq_true rfl) rfl ?_
        -- at 6
        exact g1
      rcases hs : syS B m L n 15 0 0 a with _ | ⟨k, a'⟩
      · rw [hs] at p1
        rw [pdN_n hi hs]
        obtain ⟨p39, p38⟩ := p1
        refine ⟨M1, ?_, f1, q1, p39, i, p38, h2⟩
        refine i_aload_n rfl rfl ?_
        refine i_getf rfl rfl rfl rfl (by decide) ?_
        refine i_iload_n rfl rfl ?_
        refine i_icmp_ge_f rfl (by first | omega | assumption) ?_
        refine i_aload_n rfl rfl ?_
        refine i_getf rfl rfl rfl rfl (by decide) ?_
        refine i_if_ne_f rfl (by first | omega | assumption) ?_
        refine i_aload_n rfl rfl ?_
        -- at 153
        refine i_call (T := (136, zp_136)) rfl rfl (hone) rfl rfl rfl rfl rfl rfl rfl ?_
        try dsimp only
        refine i_goto rfl ?_
        refine i_aload_n rfl rfl ?_
        refine i_getf rfl rfl rfl rfl (by decide) ?_
        refine i_iload_n rfl rfl ?_
        refine i_icmp_ge_f rfl (by first | omega | assumption) ?_
        refine i_aload_n rfl rfl ?_
        refine i_getf rfl rfl rfl rfl (by decide) ?_
        refine i_if_ne_t rfl (by first | omega | assumption) ?_
        -- at 159
        exact i_vreturn rfl rfl
      · rw [hs] at p1
        rw [pdN_s hi hs]
        obtain ⟨u1, u2, u3, u4, u5⟩ := p1
        obtain ⟨M', k1, k2, k3, k4⟩ := ih (i + 1) a' (va_up R i (S k)) l2 M1 (by omega) (by omega) u2 u1 u3 u4 ((q1 26 (by decide) (by decide) (by decide)).trans h7) (by rw [f1 56 (by decide), f1 57 (by decide)]; exact h8) (by rw [f1 53 (by decide)]; exact h9) (fun j hj => by
          rw [u5]
          by_cases e : j = i
          · rw [e, up_s, up_s]
          · rw [up_n e, up_n e]
            exact h10 j (by omega))
        refine ⟨M', ?_, Fr_t f1 k2 (by decide), Gk_t q1 k3, k4⟩
        refine i_aload_n rfl rfl ?_
        refine i_getf rfl rfl rfl rfl (by decide) ?_
        refine i_iload_n rfl rfl ?_
        refine i_icmp_ge_f rfl (by first | omega | assumption) ?_
        refine i_aload_n rfl rfl ?_
        refine i_getf rfl rfl rfl rfl (by decide) ?_
        refine i_if_ne_f rfl (by first | omega | assumption) ?_
        refine i_aload_n rfl rfl ?_
        -- at 153
        refine i_call (T := (136, zp_136)) rfl rfl (hone) rfl rfl rfl rfl rfl rfl rfl ?_
        try dsimp only
        refine i_goto rfl ?_
        -- at 137
        exact k1
    · exact done (c + 1) i a R l2 M hi h2 h5 h6 h10
