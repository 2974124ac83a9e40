def BP (b : Bool) (p o : Nat) : Prop := (b = false ∧ p = 36 ∧ o = 38) ∨ (b = true ∧ p = 38 ∧ o = 36)
theorem insW_c {W W' E E' : Nat → Int} {c p : Nat} (hp : p ≤ c) (hW : ∀ j, j < 7 * c → W j = W' j) (hE : ∀ u, u < 7 → E u = E' u) : ∀ j, j < 7 * (c + 1) → insW W p E j = insW W' p E' j := by
  intro j hj
  unfold insW
  by_cases e1 : j < 7 * p
  · rw [if_pos e1, if_pos e1, hW j (by omega)]
  · rw [if_neg e1, if_neg e1]
    by_cases e2 : j < 7 * p + 7
    · rw [if_pos e2, if_pos e2, hE _ (by omega)]
    · rw [if_neg e2, if_neg e2, hW _ (by omega)]
set_option maxRecDepth 100000 in
theorem c_planBlock {b : Bool} {M : iM} {p o a z c c' : Nat} {t : Int} {K : Nat × (Nat → Int)} (hb : BP b p o) (hz : M 11 4 = (z : Int)) (hz1 : 1 ≤ z) (hz2 : z ≤ 200) (ha : M 5 6 = (a : Int)) (ha4 : a ≤ 4) (h10 : K.1 + a ≤ 10) (hc' : c' = K.1) (hi : oB M p c) (hp : oB M o c') (hw : ∀ j, j < 7 * K.1 → M (o + 1) j = K.2 j)
    (hN : ∀ k, k < a → 0 ≤ M 8 k ∧ M 8 k ≤ 7) (hZ : ∀ k, k < a → 0 ≤ M 9 k ∧ M 9 k ≤ 24) (hB : ∀ k, k < 8 → 0 ≤ M 32 k ∧ M 32 k ≤ 255) (hsm : ∀ k, k ≤ a → 0 ≤ sm (M 9) k ∧ sm (M 9) k ≤ 255)
    {f : Int} (hf : f = fpl (fun s => oM M p c s ∨ oM M o c' s) (((z + 10) / 11 : Nat) : Int) 46 2 0) :
    ∃ M', irun none zp_23 0 (i_ent [iP 0, iI t] 8) [] (SH b) M 0 0 (some (bz (f ≠ -1 ∧ ∀ i, i < a → vr (M 32) (M 8) i ≤ 255)), SH b, M') ∧ Fr [11, 33, o, o + 1] M M' ∧ (∀ u, u ≠ 6 → M' 11 u = M 11 u) ∧ (∀ u, u ≠ 1 → M' o u = M o u) ∧ (f ≠ -1 → (∀ i, i < a → vr (M 32) (M 8) i ≤ 255) → M' 11 6 = f ∧ M' o 1 = ((K.1 + a : Nat) : Int) ∧ ∀ j, j < 7 * (K.1 + a) → M' (o + 1) j = (plN K (M 32) (M 8) (M 9) f (((z + 10) / 11 : Nat) : Int) t a).2 j) := by
  have hfb := fpl_b (U := fun s => oM M p c s ∨ oM M o c' s) (n := (((z + 10) / 11 : Nat) : Int)) (by omega) 46 2 0 (by omega) (by omega)
  rw [← hf] at hfb
  generalize en : (z + 10) / 11 = n at *
  have hk1 := hp.1
  rcases hb with ⟨rfl, rfl, rfl⟩ | ⟨rfl, rfl, rfl⟩
  · have sf := c_sectorsFor (sh := SH false) (M := M) (n := z) (by omega)
    rw [en] at sf
    have fp := c_free (b := false) (n := (n : Int)) hi hp (by omega)
    have fp : irun none zp_25 0 (i_ent [iP 0, iI (n : Int)] 5) [] (SH false) M 0 0 (some f, SH false, M) := by rw [hf]; exact fp
    have loop : ∀ (d i : Nat) (M1 : iM) (x y : Option iV), i_free [some (iP 0), some (iI t), some (iI (n : Int)), some (iI f), some (iI (sm (M 9) i)), some (iI (i : Int)), x, y] 7 = true → i + d = a → f ≠ -1 → Fr [33, 38, 38 + 1] M M1 → (∀ u, u ≠ 1 → M1 38 u = M 38 u) → (∀ j, j < i → vr (M 32) (M 8) j ≤ 255) → M1 38 1 = ((K.1 + i : Nat) : Int) → (∀ j, j < 7 * (K.1 + i) → M1 (38 + 1) j = (plN K (M 32) (M 8) (M 9) f (n : Int) t i).2 j) → ∃ M', irun none zp_23 30 [some (iP 0), some (iI t), some (iI (n : Int)), some (iI f), some (iI (sm (M 9) i)), some (iI (i : Int)), x, y] [] (SH false) M1 0 0 (some (bz (f ≠ -1 ∧ ∀ i, i < a → vr (M 32) (M 8) i ≤ 255)), SH false, M') ∧ Fr [11, 33, 38, 38 + 1] M M' ∧ (∀ u, u ≠ 6 → M' 11 u = M 11 u) ∧ (∀ u, u ≠ 1 → M' 38 u = M 38 u) ∧ (f ≠ -1 → (∀ i, i < a → vr (M 32) (M 8) i ≤ 255) → M' 11 6 = f ∧ M' 38 1 = ((K.1 + a : Nat) : Int) ∧ ∀ j, j < 7 * (K.1 + a) → M' (38 + 1) j = (plN K (M 32) (M 8) (M 9) f (n : Int) t a).2 j) := by
      intro d
      induction d with
      | zero =>
        intro i M1 x y hfr hi' f1 fr g1 hv m1 m2
        obtain rfl : i = a := by omega
        have e5 : M1 5 6 = (i : Int) := by rw [fr 5 (by decide)]; exact ha
        refine ⟨i_st M1 11 6 f, ?_, Fr_st (Fr_t (Fr_r _ _) fr (by decide)) (by decide), fun u hu => ?_, g1, fun _ _ => ⟨rfl, m1, m2⟩⟩
        · rw [bz_t ⟨f1, hv⟩]
          refine i_iload rfl rfl ?_
          refine i_aload_n rfl rfl ?_
          refine i_getr rfl rfl rfl rfl (by decide) rfl ?_
          refine i_getf rfl rfl rfl rfl (by decide) ?_
          refine i_icmp_ge_t rfl (by first | omega | assumption) ?_
          refine i_aload_n rfl rfl ?_
          refine i_getr rfl rfl rfl rfl (by decide) rfl ?_
          refine i_iload_n rfl rfl ?_
          refine i_puti rfl rfl rfl rfl ?_
          refine i_iconst (n := 1) rfl (by unfold iR; omega) ?_
          -- at 188
          exact i_zreturn rfl rfl (by first | omega | assumption)
        · show va_up (M1 11) 6 f u = _
          rw [up_n hu, fr 11 (by decide)]
      | succ d ih =>
        intro i M1 x y hfr hi' f1 fr g1 hv m1 m2
        have e5 : M1 5 6 = (a : Int) := by rw [fr 5 (by decide)]; exact ha
        have hNi := hN i (by omega)
        have hZi := hZ i (by omega)
        obtain ⟨w, ew⟩ := Int.eq_ofNat_of_zero_le hNi.1
        have hBw := hB w (by omega)
        have e8 : M1 8 i = (w : Int) := by rw [fr 8 (by decide)]; exact ew
        have er := c_earlier (b := false) (M := M1) (i := i) (by omega)
        rw [fr 8 (by decide)] at er
        have ob := oc_b (M 8) (M 8 i) i
        have evr : vr (M 32) (M 8) i = M 32 w + 1 + (oc (M 8) (M 8 i) i : Int) := by
          unfold vr
          rw [show (M 8 i).toNat = w by omega]
        have pre : ∀ q, irun none zp_23 75 [some (iP 0), some (iI t), some (iI (n : Int)), some (iI f), some (iI (sm (M 9) i)), some (iI (i : Int)), some (iI (w : Int)), some (iI (vr (M 32) (M 8) i))] [] (SH false) M1 0 0 q → irun none zp_23 30 [some (iP 0), some (iI t), some (iI (n : Int)), some (iI f), some (iI (sm (M 9) i)), some (iI (i : Int)), x, y] [] (SH false) M1 0 0 q := by
          intro q hq
          rw [evr] at hq
          refine i_iload rfl rfl ?_
          refine i_aload_n rfl rfl ?_
          refine i_getr rfl rfl rfl rfl (by decide) rfl ?_
          refine i_getf rfl rfl rfl rfl (by decide) ?_
          refine i_icmp_ge_f rfl (by first | omega | assumption) ?_
          refine i_aload_n rfl rfl ?_
          refine i_getr rfl rfl rfl rfl (by decide) rfl ?_
          refine i_getr rfl rfl rfl rfl (by decide) rfl ?_
          refine i_iload rfl rfl ?_
          refine i_iald rfl rfl (by first | omega | assumption) (by first | omega | assumption) (by decide) ?_
          -- at 52
          rw [show (i : Int).toNat = i by omega, e8]
          refine i_istore rfl (Nat.le_of_ble_eq_true rfl) rfl ?_
          refine i_aload_n rfl rfl ?_
          refine i_getr rfl rfl rfl rfl (by decide) rfl ?_
          refine i_iload rfl rfl ?_
          refine i_iald rfl rfl (by first | omega | assumption) (by first | omega | assumption) (by decide) ?_
          -- at 61
          rw [show (w : Int).toNat = w by omega, fr 32 (by decide)]
          refine i_iconst (n := 1) rfl (by unfold iR; omega) ?_
          refine i_iadd rfl (by unfold iR; omega) ?_
          refine i_aload_n rfl rfl ?_
          refine i_getr rfl rfl rfl rfl (by decide) rfl ?_
          refine i_iload rfl rfl ?_
          -- at 69
          refine i_call (T := (74, zp_74)) rfl rfl (er) rfl rfl rfl rfl rfl rfl rfl ?_
          try dsimp only
          show irun none zp_23 72 _ (iI ((oc (M 8) (M 8 i) i : Int)) :: _) _ _ 0 0 _
          refine i_iadd rfl (by unfold iR; omega) ?_
          refine i_istore rfl (Nat.le_of_ble_eq_true rfl) rfl ?_
          -- at 75
          exact hq
        by_cases hbad : 255 < vr (M 32) (M 8) i
        · refine ⟨M1, pre _ ?_, Fr_t (Fr_r _ _) fr (by decide), fun u _ => by rw [fr 11 (by decide)], g1, fun _ hall => by have := hall i (by omega); omega⟩
          rw [bz_f (fun q => by have := q.2 i (by omega); omega)]
          refine i_iload rfl rfl ?_
          refine i_sipush (n := 255) rfl (by unfold iR; omega) (by decide) ?_
          refine i_icmp_le_f rfl (by first | omega | assumption) ?_
          refine i_iconst (n := 0) rfl (by unfold iR; omega) ?_
          -- at 84
          exact i_zreturn rfl rfl (by first | omega | assumption)
        · have e9 : M1 9 i = M 9 i := by rw [fr 9 (by decide)]
          have hsi := hsm i (by omega)
          obtain ⟨M3, k1, k2, k3, k4, k5⟩ := c_insert (b := false) (p := 38) (c := K.1 + i) (M := i_st (i_st (i_st (i_st (i_st (i_st (i_st M1 33 0 (w : Int)) 33 1 (vr (M 32) (M 8) i)) 33 2 f) 33 3 (n : Int)) 33 4 (sm (M 9) i)) 33 5 (M 9 i)) 33 6 t) (by decide) m1 (by omega)
          have fr3 : Fr [33, 38, 38 + 1] M M3 := Fr_t (Fr_st (Fr_st (Fr_st (Fr_st (Fr_st (Fr_st (Fr_st fr (by decide)) (by decide)) (by decide)) (by decide)) (by decide)) (by decide)) (by decide)) k2 (by decide)
          obtain ⟨M', h1, h2⟩ := ih (i + 1) M3 (some (iI (w : Int))) (some (iI (vr (M 32) (M 8) i))) rfl (by omega) f1 fr3 (fun u hu => (k4 u hu).trans (g1 u hu)) (fun j hj => by
            by_cases e : j = i
            · rw [e]; omega
            · exact hv j (by omega)) k3 (fun j hj => by
            rw [k5 j (by omega)]
            show insW (M1 (38 + 1)) (ipos (M1 (38 + 1)) (w : Int) (vr (M 32) (M 8) i) (K.1 + i)) _ j = insW (plN K (M 32) (M 8) (M 9) f (n : Int) t i).2 (ipos (plN K (M 32) (M 8) (M 9) f (n : Int) t i).2 (M 8 i) (vr (M 32) (M 8) i) (plN K (M 32) (M 8) (M 9) f (n : Int) t i).1) (e7 (M 8 i) (vr (M 32) (M 8) i) f (n : Int) (sm (M 9) i) (M 9 i) t) j
            rw [plN_n, ew, ipos_c m2]
            exact insW_c (ipos_ok _).1 m2 (fun u hu => by
              rcases (show u = 0 ∨ u = 1 ∨ u = 2 ∨ u = 3 ∨ u = 4 ∨ u = 5 ∨ u = 6 by omega) with h | h | h | h | h | h | h <;> subst h <;> rfl) j (by omega))
          refine ⟨M', pre _ ?_, h2⟩
          rw [show sm (M 9) (i + 1) = sm (M 9) i + M 9 i from rfl] at h1
          refine i_iload rfl rfl ?_
          refine i_sipush (n := 255) rfl (by unfold iR; omega) (by decide) ?_
          refine i_icmp_le_t rfl (by first | omega | assumption) ?_
          refine i_aload_n rfl rfl ?_
          refine i_getr rfl rfl rfl rfl (by decide) rfl ?_
          refine i_iconst (n := 0) rfl (by unfold iR; omega) ?_
          refine i_iload rfl rfl ?_
          refine i_iast rfl rfl (by first | omega | assumption) (by first | omega | assumption) ?_
          refine i_aload_n rfl rfl ?_
          refine i_getr rfl rfl rfl rfl (by decide) rfl ?_
          refine i_iconst (n := 1) rfl (by unfold iR; omega) ?_
          refine i_iload rfl rfl ?_
          refine i_iast rfl rfl (by first | omega | assumption) (by first | omega | assumption) ?_
          refine i_aload_n rfl rfl ?_
          refine i_getr rfl rfl rfl rfl (by decide) rfl ?_
          refine i_iconst (n := 2) rfl (by unfold iR; omega) ?_
          refine i_iload_n rfl rfl ?_
          refine i_iast rfl rfl (by first | omega | assumption) (by first | omega | assumption) ?_
          refine i_aload_n rfl rfl ?_
          refine i_getr rfl rfl rfl rfl (by decide) rfl ?_
          refine i_iconst (n := 3) rfl (by unfold iR; omega) ?_
          refine i_iload_n rfl rfl ?_
          refine i_iast rfl rfl (by first | omega | assumption) (by first | omega | assumption) ?_
          refine i_aload_n rfl rfl ?_
          refine i_getr rfl rfl rfl rfl (by decide) rfl ?_
          refine i_iconst (n := 4) rfl (by unfold iR; omega) ?_
          refine i_iload rfl rfl ?_
          refine i_iast rfl rfl (by first | omega | assumption) (by first | omega | assumption) ?_
          refine i_aload_n rfl rfl ?_
          refine i_getr rfl rfl rfl rfl (by decide) rfl ?_
          refine i_iconst (n := 5) rfl (by unfold iR; omega) ?_
          refine i_aload_n rfl rfl ?_
          refine i_getr rfl rfl rfl rfl (by decide) rfl ?_
          refine i_getr rfl rfl rfl rfl (by decide) rfl ?_
          refine i_iload rfl rfl ?_
          refine i_iald rfl rfl (by first | omega | assumption) (by first | omega | assumption) (by decide) ?_
          -- at 138
          rw [show (i : Int).toNat = i by omega]
          show irun none zp_23 138 _ (iI (M1 9 i) :: _) _ _ 0 0 _
          rw [e9]
          refine i_iast rfl rfl (by first | omega | assumption) (by first | omega | assumption) ?_
          refine i_aload_n rfl rfl ?_
          refine i_getr rfl rfl rfl rfl (by decide) rfl ?_
          refine i_bipush (n := 6) rfl (by unfold iR; omega) (by decide) ?_
          refine i_iload_n rfl rfl ?_
          refine i_iast rfl rfl (by first | omega | assumption) (by first | omega | assumption) ?_
          refine i_aload_n rfl rfl ?_
          refine i_getr (p2 := 38) rfl rfl rfl rfl (by decide) rfl ?_
          refine i_aload_n rfl rfl ?_
          refine i_getr rfl rfl rfl rfl (by decide) rfl ?_
          -- at 155
          refine i_call (T := (61, zp_61)) rfl rfl (k1) rfl rfl rfl rfl rfl rfl rfl ?_
          try dsimp only
          refine i_iload rfl rfl ?_
          refine i_aload_n rfl rfl ?_
          refine i_getr rfl rfl rfl rfl (by decide) rfl ?_
          refine i_getr rfl rfl rfl rfl (by decide) rfl ?_
          refine i_iload rfl rfl ?_
          refine i_iald rfl rfl (by first | omega | assumption) (by first | omega | assumption) (by decide) ?_
          -- at 170
          rw [show (i : Int).toNat = i by omega, fr3 9 (by decide)]
          refine i_iadd rfl (by unfold iR; omega) ?_
          refine i_istore rfl (Nat.le_of_ble_eq_true rfl) rfl ?_
          refine i_iinc rfl rfl (by unfold iR; omega) (Nat.le_of_ble_eq_true rfl) rfl ?_
          refine i_goto rfl ?_
          -- at 30
          exact h1
    by_cases hf1 : f = -1
    · refine ⟨M, ?_, Fr_r _ _, fun _ _ => rfl, fun _ _ => rfl, fun q => absurd hf1 q⟩
      rw [bz_f (fun q => q.1 hf1)]
      refine i_aload_n rfl rfl ?_
      refine i_getr rfl rfl rfl rfl (by decide) rfl ?_
      refine i_getf rfl rfl rfl rfl (by decide) ?_
      -- at 7
      rw [hz]
      refine i_call (T := (26, zp_26)) rfl rfl (sf) rfl rfl rfl rfl rfl rfl rfl ?_
      try dsimp only
      show irun none zp_23 10 _ (iI ((n : Int)) :: _) _ _ 0 0 _
      refine i_istore_n rfl (Nat.le_of_ble_eq_true rfl) rfl ?_
      refine i_aload_n rfl rfl ?_
      refine i_iload_n rfl rfl ?_
      -- at 13
      refine i_call (T := (25, zp_25)) rfl rfl (fp) rfl rfl rfl rfl rfl rfl rfl ?_
      try dsimp only
      show irun none zp_23 16 _ (iI (f) :: _) _ _ 0 0 _
      refine i_istore_n rfl (Nat.le_of_ble_eq_true rfl) rfl ?_
      refine i_iload_n rfl rfl ?_
      refine i_iconst (n := -1) rfl (by unfold iR; omega) ?_
      refine i_icmp_ne_f rfl (by first | omega | assumption) ?_
      refine i_iconst (n := 0) rfl (by unfold iR; omega) ?_
      -- at 23
      exact i_zreturn rfl rfl (by first | omega | assumption)
    · obtain ⟨M', h1, h2⟩ := loop a 0 M none none rfl (by omega) hf1 (Fr_r _ _) (fun _ _ => rfl) (fun j hj => by omega) (by rw [hk1, hc']; rfl) hw
      refine ⟨M', ?_, h2⟩
      refine i_aload_n rfl rfl ?_
      refine i_getr rfl rfl rfl rfl (by decide) rfl ?_
      refine i_getf rfl rfl rfl rfl (by decide) ?_
      -- at 7
      rw [hz]
      refine i_call (T := (26, zp_26)) rfl rfl (sf) rfl rfl rfl rfl rfl rfl rfl ?_
      try dsimp only
      show irun none zp_23 10 _ (iI ((n : Int)) :: _) _ _ 0 0 _
      refine i_istore_n rfl (Nat.le_of_ble_eq_true rfl) rfl ?_
      refine i_aload_n rfl rfl ?_
      refine i_iload_n rfl rfl ?_
      -- at 13
      refine i_call (T := (25, zp_25)) rfl rfl (fp) rfl rfl rfl rfl rfl rfl rfl ?_
      try dsimp only
      show irun none zp_23 16 _ (iI (f) :: _) _ _ 0 0 _
      refine i_istore_n rfl (Nat.le_of_ble_eq_true rfl) rfl ?_
      refine i_iload_n rfl rfl ?_
      refine i_iconst (n := -1) rfl (by unfold iR; omega) ?_
      refine i_icmp_ne_t rfl (by first | omega | assumption) ?_
      refine i_iconst (n := 0) rfl (by unfold iR; omega) ?_
      refine i_istore rfl (Nat.le_of_ble_eq_true rfl) rfl ?_
      refine i_iconst (n := 0) rfl (by unfold iR; omega) ?_
      refine i_istore rfl (Nat.le_of_ble_eq_true rfl) rfl ?_
      -- at 30
      exact h1
  · have sf := c_sectorsFor (sh := SH true) (M := M) (n := z) (by omega)
    rw [en] at sf
    have fp := c_free (b := true) (n := (n : Int)) hi hp (by omega)
    have fp : irun none zp_25 0 (i_ent [iP 0, iI (n : Int)] 5) [] (SH true) M 0 0 (some f, SH true, M) := by rw [hf]; exact fp
    have loop : ∀ (d i : Nat) (M1 : iM) (x y : Option iV), i_free [some (iP 0), some (iI t), some (iI (n : Int)), some (iI f), some (iI (sm (M 9) i)), some (iI (i : Int)), x, y] 7 = true → i + d = a → f ≠ -1 → Fr [33, 36, 36 + 1] M M1 → (∀ u, u ≠ 1 → M1 36 u = M 36 u) → (∀ j, j < i → vr (M 32) (M 8) j ≤ 255) → M1 36 1 = ((K.1 + i : Nat) : Int) → (∀ j, j < 7 * (K.1 + i) → M1 (36 + 1) j = (plN K (M 32) (M 8) (M 9) f (n : Int) t i).2 j) → ∃ M', irun none zp_23 30 [some (iP 0), some (iI t), some (iI (n : Int)), some (iI f), some (iI (sm (M 9) i)), some (iI (i : Int)), x, y] [] (SH true) M1 0 0 (some (bz (f ≠ -1 ∧ ∀ i, i < a → vr (M 32) (M 8) i ≤ 255)), SH true, M') ∧ Fr [11, 33, 36, 36 + 1] M M' ∧ (∀ u, u ≠ 6 → M' 11 u = M 11 u) ∧ (∀ u, u ≠ 1 → M' 36 u = M 36 u) ∧ (f ≠ -1 → (∀ i, i < a → vr (M 32) (M 8) i ≤ 255) → M' 11 6 = f ∧ M' 36 1 = ((K.1 + a : Nat) : Int) ∧ ∀ j, j < 7 * (K.1 + a) → M' (36 + 1) j = (plN K (M 32) (M 8) (M 9) f (n : Int) t a).2 j) := by
      intro d
      induction d with
      | zero =>
        intro i M1 x y hfr hi' f1 fr g1 hv m1 m2
        obtain rfl : i = a := by omega
        have e5 : M1 5 6 = (i : Int) := by rw [fr 5 (by decide)]; exact ha
        refine ⟨i_st M1 11 6 f, ?_, Fr_st (Fr_t (Fr_r _ _) fr (by decide)) (by decide), fun u hu => ?_, g1, fun _ _ => ⟨rfl, m1, m2⟩⟩
        · rw [bz_t ⟨f1, hv⟩]
          refine i_iload rfl rfl ?_
          refine i_aload_n rfl rfl ?_
          refine i_getr rfl rfl rfl rfl (by decide) rfl ?_
          refine i_getf rfl rfl rfl rfl (by decide) ?_
          refine i_icmp_ge_t rfl (by first | omega | assumption) ?_
          refine i_aload_n rfl rfl ?_
          refine i_getr rfl rfl rfl rfl (by decide) rfl ?_
          refine i_iload_n rfl rfl ?_
          refine i_puti rfl rfl rfl rfl ?_
          refine i_iconst (n := 1) rfl (by unfold iR; omega) ?_
          -- at 188
          exact i_zreturn rfl rfl (by first | omega | assumption)
        · show va_up (M1 11) 6 f u = _
          rw [up_n hu, fr 11 (by decide)]
      | succ d ih =>
        intro i M1 x y hfr hi' f1 fr g1 hv m1 m2
        have e5 : M1 5 6 = (a : Int) := by rw [fr 5 (by decide)]; exact ha
        have hNi := hN i (by omega)
        have hZi := hZ i (by omega)
        obtain ⟨w, ew⟩ := Int.eq_ofNat_of_zero_le hNi.1
        have hBw := hB w (by omega)
        have e8 : M1 8 i = (w : Int) := by rw [fr 8 (by decide)]; exact ew
        have er := c_earlier (b := true) (M := M1) (i := i) (by omega)
        rw [fr 8 (by decide)] at er
        have ob := oc_b (M 8) (M 8 i) i
        have evr : vr (M 32) (M 8) i = M 32 w + 1 + (oc (M 8) (M 8 i) i : Int) := by
          unfold vr
          rw [show (M 8 i).toNat = w by omega]
        have pre : ∀ q, irun none zp_23 75 [some (iP 0), some (iI t), some (iI (n : Int)), some (iI f), some (iI (sm (M 9) i)), some (iI (i : Int)), some (iI (w : Int)), some (iI (vr (M 32) (M 8) i))] [] (SH true) M1 0 0 q → irun none zp_23 30 [some (iP 0), some (iI t), some (iI (n : Int)), some (iI f), some (iI (sm (M 9) i)), some (iI (i : Int)), x, y] [] (SH true) M1 0 0 q := by
          intro q hq
          rw [evr] at hq
          refine i_iload rfl rfl ?_
          refine i_aload_n rfl rfl ?_
          refine i_getr rfl rfl rfl rfl (by decide) rfl ?_
          refine i_getf rfl rfl rfl rfl (by decide) ?_
          refine i_icmp_ge_f rfl (by first | omega | assumption) ?_
          refine i_aload_n rfl rfl ?_
          refine i_getr rfl rfl rfl rfl (by decide) rfl ?_
          refine i_getr rfl rfl rfl rfl (by decide) rfl ?_
          refine i_iload rfl rfl ?_
          refine i_iald rfl rfl (by first | omega | assumption) (by first | omega | assumption) (by decide) ?_
          -- at 52
          rw [show (i : Int).toNat = i by omega, e8]
          refine i_istore rfl (Nat.le_of_ble_eq_true rfl) rfl ?_
          refine i_aload_n rfl rfl ?_
          refine i_getr rfl rfl rfl rfl (by decide) rfl ?_
          refine i_iload rfl rfl ?_
          refine i_iald rfl rfl (by first | omega | assumption) (by first | omega | assumption) (by decide) ?_
          -- at 61
          rw [show (w : Int).toNat = w by omega, fr 32 (by decide)]
          refine i_iconst (n := 1) rfl (by unfold iR; omega) ?_
          refine i_iadd rfl (by unfold iR; omega) ?_
          refine i_aload_n rfl rfl ?_
          refine i_getr rfl rfl rfl rfl (by decide) rfl ?_
          refine i_iload rfl rfl ?_
          -- at 69
          refine i_call (T := (74, zp_74)) rfl rfl (er) rfl rfl rfl rfl rfl rfl rfl ?_
          try dsimp only
          show irun none zp_23 72 _ (iI ((oc (M 8) (M 8 i) i : Int)) :: _) _ _ 0 0 _
          refine i_iadd rfl (by unfold iR; omega) ?_
          refine i_istore rfl (Nat.le_of_ble_eq_true rfl) rfl ?_
          -- at 75
          exact hq
        by_cases hbad : 255 < vr (M 32) (M 8) i
        · refine ⟨M1, pre _ ?_, Fr_t (Fr_r _ _) fr (by decide), fun u _ => by rw [fr 11 (by decide)], g1, fun _ hall => by have := hall i (by omega); omega⟩
          rw [bz_f (fun q => by have := q.2 i (by omega); omega)]
          refine i_iload rfl rfl ?_
          refine i_sipush (n := 255) rfl (by unfold iR; omega) (by decide) ?_
          refine i_icmp_le_f rfl (by first | omega | assumption) ?_
          refine i_iconst (n := 0) rfl (by unfold iR; omega) ?_
          -- at 84
          exact i_zreturn rfl rfl (by first | omega | assumption)
        · have e9 : M1 9 i = M 9 i := by rw [fr 9 (by decide)]
          have hsi := hsm i (by omega)
          obtain ⟨M3, k1, k2, k3, k4, k5⟩ := c_insert (b := true) (p := 36) (c := K.1 + i) (M := i_st (i_st (i_st (i_st (i_st (i_st (i_st M1 33 0 (w : Int)) 33 1 (vr (M 32) (M 8) i)) 33 2 f) 33 3 (n : Int)) 33 4 (sm (M 9) i)) 33 5 (M 9 i)) 33 6 t) (by decide) m1 (by omega)
          have fr3 : Fr [33, 36, 36 + 1] M M3 := Fr_t (Fr_st (Fr_st (Fr_st (Fr_st (Fr_st (Fr_st (Fr_st fr (by decide)) (by decide)) (by decide)) (by decide)) (by decide)) (by decide)) (by decide)) k2 (by decide)
          obtain ⟨M', h1, h2⟩ := ih (i + 1) M3 (some (iI (w : Int))) (some (iI (vr (M 32) (M 8) i))) rfl (by omega) f1 fr3 (fun u hu => (k4 u hu).trans (g1 u hu)) (fun j hj => by
            by_cases e : j = i
            · rw [e]; omega
            · exact hv j (by omega)) k3 (fun j hj => by
            rw [k5 j (by omega)]
            show insW (M1 (36 + 1)) (ipos (M1 (36 + 1)) (w : Int) (vr (M 32) (M 8) i) (K.1 + i)) _ j = insW (plN K (M 32) (M 8) (M 9) f (n : Int) t i).2 (ipos (plN K (M 32) (M 8) (M 9) f (n : Int) t i).2 (M 8 i) (vr (M 32) (M 8) i) (plN K (M 32) (M 8) (M 9) f (n : Int) t i).1) (e7 (M 8 i) (vr (M 32) (M 8) i) f (n : Int) (sm (M 9) i) (M 9 i) t) j
            rw [plN_n, ew, ipos_c m2]
            exact insW_c (ipos_ok _).1 m2 (fun u hu => by
              rcases (show u = 0 ∨ u = 1 ∨ u = 2 ∨ u = 3 ∨ u = 4 ∨ u = 5 ∨ u = 6 by omega) with h | h | h | h | h | h | h <;> subst h <;> rfl) j (by omega))
          refine ⟨M', pre _ ?_, h2⟩
          rw [show sm (M 9) (i + 1) = sm (M 9) i + M 9 i from rfl] at h1
          refine i_iload rfl rfl ?_
          refine i_sipush (n := 255) rfl (by unfold iR; omega) (by decide) ?_
          refine i_icmp_le_t rfl (by first | omega | assumption) ?_
          refine i_aload_n rfl rfl ?_
          refine i_getr rfl rfl rfl rfl (by decide) rfl ?_
          refine i_iconst (n := 0) rfl (by unfold iR; omega) ?_
          refine i_iload rfl rfl ?_
          refine i_iast rfl rfl (by first | omega | assumption) (by first | omega | assumption) ?_
          refine i_aload_n rfl rfl ?_
          refine i_getr rfl rfl rfl rfl (by decide) rfl ?_
          refine i_iconst (n := 1) rfl (by unfold iR; omega) ?_
          refine i_iload rfl rfl ?_
          refine i_iast rfl rfl (by first | omega | assumption) (by first | omega | assumption) ?_
          refine i_aload_n rfl rfl ?_
          refine i_getr rfl rfl rfl rfl (by decide) rfl ?_
          refine i_iconst (n := 2) rfl (by unfold iR; omega) ?_
          refine i_iload_n rfl rfl ?_
          refine i_iast rfl rfl (by first | omega | assumption) (by first | omega | assumption) ?_
          refine i_aload_n rfl rfl ?_
          refine i_getr rfl rfl rfl rfl (by decide) rfl ?_
          refine i_iconst (n := 3) rfl (by unfold iR; omega) ?_
          refine i_iload_n rfl rfl ?_
          refine i_iast rfl rfl (by first | omega | assumption) (by first | omega | assumption) ?_
          refine i_aload_n rfl rfl ?_
          refine i_getr rfl rfl rfl rfl (by decide) rfl ?_
          refine i_iconst (n := 4) rfl (by unfold iR; omega) ?_
          refine i_iload rfl rfl ?_
          refine i_iast rfl rfl (by first | omega | assumption) (by first | omega | assumption) ?_
          refine i_aload_n rfl rfl ?_
          refine i_getr rfl rfl rfl rfl (by decide) rfl ?_
          refine i_iconst (n := 5) rfl (by unfold iR; omega) ?_
          refine i_aload_n rfl rfl ?_
          refine i_getr rfl rfl rfl rfl (by decide) rfl ?_
          refine i_getr rfl rfl rfl rfl (by decide) rfl ?_
          refine i_iload rfl rfl ?_
          refine i_iald rfl rfl (by first | omega | assumption) (by first | omega | assumption) (by decide) ?_
          -- at 138
          rw [show (i : Int).toNat = i by omega]
          show irun none zp_23 138 _ (iI (M1 9 i) :: _) _ _ 0 0 _
          rw [e9]
          refine i_iast rfl rfl (by first | omega | assumption) (by first | omega | assumption) ?_
          refine i_aload_n rfl rfl ?_
          refine i_getr rfl rfl rfl rfl (by decide) rfl ?_
          refine i_bipush (n := 6) rfl (by unfold iR; omega) (by decide) ?_
          refine i_iload_n rfl rfl ?_
          refine i_iast rfl rfl (by first | omega | assumption) (by first | omega | assumption) ?_
          refine i_aload_n rfl rfl ?_
          refine i_getr (p2 := 36) rfl rfl rfl rfl (by decide) rfl ?_
          refine i_aload_n rfl rfl ?_
          refine i_getr rfl rfl rfl rfl (by decide) rfl ?_
          -- at 155
          refine i_call (T := (61, zp_61)) rfl rfl (k1) rfl rfl rfl rfl rfl rfl rfl ?_
          try dsimp only
          refine i_iload rfl rfl ?_
          refine i_aload_n rfl rfl ?_
          refine i_getr rfl rfl rfl rfl (by decide) rfl ?_
          refine i_getr rfl rfl rfl rfl (by decide) rfl ?_
          refine i_iload rfl rfl ?_
          refine i_iald rfl rfl (by first | omega | assumption) (by first | omega | assumption) (by decide) ?_
          -- at 170
          rw [show (i : Int).toNat = i by omega, fr3 9 (by decide)]
          refine i_iadd rfl (by unfold iR; omega) ?_
          refine i_istore rfl (Nat.le_of_ble_eq_true rfl) rfl ?_
          refine i_iinc rfl rfl (by unfold iR; omega) (Nat.le_of_ble_eq_true rfl) rfl ?_
          refine i_goto rfl ?_
          -- at 30
          exact h1
    by_cases hf1 : f = -1
    · refine ⟨M, ?_, Fr_r _ _, fun _ _ => rfl, fun _ _ => rfl, fun q => absurd hf1 q⟩
      rw [bz_f (fun q => q.1 hf1)]
      refine i_aload_n rfl rfl ?_
      refine i_getr rfl rfl rfl rfl (by decide) rfl ?_
      refine i_getf rfl rfl rfl rfl (by decide) ?_
      -- at 7
      rw [hz]
      refine i_call (T := (26, zp_26)) rfl rfl (sf) rfl rfl rfl rfl rfl rfl rfl ?_
      try dsimp only
      show irun none zp_23 10 _ (iI ((n : Int)) :: _) _ _ 0 0 _
      refine i_istore_n rfl (Nat.le_of_ble_eq_true rfl) rfl ?_
      refine i_aload_n rfl rfl ?_
      refine i_iload_n rfl rfl ?_
      -- at 13
      refine i_call (T := (25, zp_25)) rfl rfl (fp) rfl rfl rfl rfl rfl rfl rfl ?_
      try dsimp only
      show irun none zp_23 16 _ (iI (f) :: _) _ _ 0 0 _
      refine i_istore_n rfl (Nat.le_of_ble_eq_true rfl) rfl ?_
      refine i_iload_n rfl rfl ?_
      refine i_iconst (n := -1) rfl (by unfold iR; omega) ?_
      refine i_icmp_ne_f rfl (by first | omega | assumption) ?_
      refine i_iconst (n := 0) rfl (by unfold iR; omega) ?_
      -- at 23
      exact i_zreturn rfl rfl (by first | omega | assumption)
    · obtain ⟨M', h1, h2⟩ := loop a 0 M none none rfl (by omega) hf1 (Fr_r _ _) (fun _ _ => rfl) (fun j hj => by omega) (by rw [hk1, hc']; rfl) hw
      refine ⟨M', ?_, h2⟩
      refine i_aload_n rfl rfl ?_
      refine i_getr rfl rfl rfl rfl (by decide) rfl ?_
      refine i_getf rfl rfl rfl rfl (by decide) ?_
      -- at 7
      rw [hz]
      refine i_call (T := (26, zp_26)) rfl rfl (sf) rfl rfl rfl rfl rfl rfl rfl ?_
      try dsimp only
      show irun none zp_23 10 _ (iI ((n : Int)) :: _) _ _ 0 0 _
      refine i_istore_n rfl (Nat.le_of_ble_eq_true rfl) rfl ?_
      refine i_aload_n rfl rfl ?_
      refine i_iload_n rfl rfl ?_
      -- at 13
      refine i_call (T := (25, zp_25)) rfl rfl (fp) rfl rfl rfl rfl rfl rfl rfl ?_
      try dsimp only
      show irun none zp_23 16 _ (iI (f) :: _) _ _ 0 0 _
      refine i_istore_n rfl (Nat.le_of_ble_eq_true rfl) rfl ?_
      refine i_iload_n rfl rfl ?_
      refine i_iconst (n := -1) rfl (by unfold iR; omega) ?_
      refine i_icmp_ne_t rfl (by first | omega | assumption) ?_
      refine i_iconst (n := 0) rfl (by unfold iR; omega) ?_
      refine i_istore rfl (Nat.le_of_ble_eq_true rfl) rfl ?_
      refine i_iconst (n := 0) rfl (by unfold iR; omega) ?_
      refine i_istore rfl (Nat.le_of_ble_eq_true rfl) rfl ?_
      -- at 30
      exact h1
