def iD (c : Int) (W : Nat → Int) (j : Nat) : Int := if j = 0 then c else W (j - 1)
def hD (x f s : Int) (j : Nat) : Int := if j = 0 then 83 else if j = 1 then 65 else if j = 2 then x else if j = 3 then f else s
theorem Dz_c {m m' : Nat → Int} {z : Nat} (h : ∀ j, j < z → m j = m' j) : Dz m z = Dz m' z := by
  funext i k
  unfold Dz
  by_cases e : i * 11 + k < z
  · rw [if_pos e, if_pos e, h _ e]
  · rw [if_neg e, if_neg e]
set_option maxRecDepth 100000 in
theorem c_writeP {b : Bool} {M : iM} {p o a c z f1 f2 x n1 n2 : Nat} {N : Int} (hb : BP b p o) (ha : M 5 6 = (a : Int)) (hc : M o 1 = (c : Int)) (h10 : c ≤ 10) (hn1 : n1 = if a = 0 then 0 else (z + 10) / 11) (hn2 : n2 = if c = 0 then 0 else (1 + 7 * c + 10) / 11)
    (hblk : 0 < a → M 11 6 = (f1 : Int) ∧ M 11 4 = (z : Int) ∧ z ≤ 200 ∧ f1 + (z + 10) / 11 ≤ 48 ∧ by8 (M 30) z) (hidx : 0 < c → M o 3 = (f2 : Int) ∧ f2 + (1 + 7 * c + 10) / 11 ≤ 48) (hwb : by8 (M (o + 1)) (7 * c)) (hx : M o 2 = (x : Int)) (hx2 : x < 256) (h3 : 0 ≤ M o 3 ∧ M o 3 < 256) (h4 : 0 ≤ M o 4 ∧ M o 4 < 256)
    (hO : Oo (M 1) N) (hNN : N < 800000000) (hf : by8 (M 2) 720) (hm : ∀ y : Nat, y < 256 → M 3 y = hN 8 (y : Int)) {V : Int × (Nat → Int) × (Nat → Int)} (hV : V = wr (Dz (M 30) z) (Dz (iD c (M (o + 1))) (1 + 7 * c)) (Dz (hD x (M o 3) (M o 4)) 5) f1 f2 (x % 2) n1 n2 (M 2) (M 1)) :
    ∃ M', irun none zp_27 0 (i_ent [iP 0] 1) [] (SH b) M 0 0 (some V.1, SH b, M') ∧ Fr [1, 2, 4, 34] M M' ∧ M' 1 = V.2.2 ∧ M' 2 = V.2.1 ∧ by8 (M' 2) 720 ∧ Oo (M' 1) (N + 300) ∧ (V.1 = 0 ∨ V.1 = 1) ∧ (V.1 = 1 → V.2.2 5 = M 1 5 + 2 * ((n1 : Int) + (n2 : Int) + 1)) := by
  -- the block
  generalize eD1 : Dz (M 30) z = D1 at hV
  generalize eD2 : Dz (iD c (M (o + 1))) (1 + 7 * c) = D2 at hV
  generalize eD3 : Dz (hD x (M o 3) (M o 4)) 5 = D3 at hV
  have s1 : ∃ M1, ((sr D1 f1 (M 2) (M 1) n1).1 = 1 → ∀ q, irun none zp_27 43 [some (iP 0)] [] (SH b) M1 0 0 q → irun none zp_27 0 [some (iP 0)] [] (SH b) M 0 0 q) ∧ ((sr D1 f1 (M 2) (M 1) n1).1 ≠ 1 → irun none zp_27 0 [some (iP 0)] [] (SH b) M 0 0 (some (sr D1 f1 (M 2) (M 1) n1).1, SH b, M1)) ∧ Fr [1, 2, 4] M M1 ∧ M1 1 = (sr D1 f1 (M 2) (M 1) n1).2.2 ∧ M1 2 = (sr D1 f1 (M 2) (M 1) n1).2.1 ∧ by8 (M1 2) 720 ∧ Oo (M1 1) (N + 100) ∧ ((sr D1 f1 (M 2) (M 1) n1).1 = 0 ∨ (sr D1 f1 (M 2) (M 1) n1).1 = 1) := by
    by_cases a0 : a = 0
    · rw [if_pos a0] at hn1
      subst hn1
      refine ⟨M, fun _ q hq => ?_, fun q => absurd rfl q, Fr_r _ _, rfl, rfl, hf, ⟨hO.1, hO.2.1, by have := hO.2.2; omega⟩, Or.inr rfl⟩
      refine i_aload_n rfl rfl ?_
      refine i_getr rfl rfl rfl rfl (by decide) rfl ?_
      refine i_getf rfl rfl rfl rfl (by decide) ?_
      refine i_if_le_t rfl (by first | omega | assumption) ?_
      -- at 43
      exact hq
    · rw [if_neg a0] at hn1
      obtain ⟨q1, q2, q3, q4, q5⟩ := hblk (by omega)
      obtain ⟨J, st⟩ := c_storeRun (b := b) (M := M) (first := f1) (t := 30) (size := z) (n := 259) (rs := []) rfl (by decide) (by decide) (by decide) (by decide) q4 (by omega) (by decide) hO (by omega) hf q5 hm
      rw [eD1, ← hn1] at st
      have ok := sr_ok (first := f1) hO hf (D := D1) (by rw [← eD1]; exact Dz_b q5) n1 (by omega)
      refine ⟨va_up (va_up (va_up M 1 (sr D1 f1 (M 2) (M 1) n1).2.2) 2 (sr D1 f1 (M 2) (M 1) n1).2.1) 4 J, fun h1 q hq => ?_, fun h1 => ?_, Fr_up (Fr_up (Fr_up (Fr_r _ _) (by decide)) (by decide)) (by decide), rfl, rfl, ok.1, ⟨ok.2.1.1, ok.2.1.2.1, by have := ok.2.1.2.2; show (sr D1 f1 (M 2) (M 1) n1).2.2 5 ≤ _; omega⟩, ok.2.2⟩
      · rw [h1] at st
        refine i_aload_n rfl rfl ?_
        refine i_getr rfl rfl rfl rfl (by decide) rfl ?_
        refine i_getf rfl rfl rfl rfl (by decide) ?_
        refine i_if_le_f rfl (by first | omega | assumption) ?_
        refine i_aload_n rfl rfl ?_
        refine i_getr rfl rfl rfl rfl (by decide) rfl ?_
        refine i_aload_n rfl rfl ?_
        refine i_getr rfl rfl rfl rfl (by decide) rfl ?_
        refine i_getf rfl rfl rfl rfl (by decide) ?_
        -- at 21
        rw [q1]
        refine i_aload_n rfl rfl ?_
        refine i_getr rfl rfl rfl rfl (by decide) rfl ?_
        refine i_getr rfl rfl rfl rfl (by decide) rfl ?_
        refine i_aload_n rfl rfl ?_
        refine i_getr rfl rfl rfl rfl (by decide) rfl ?_
        refine i_getf rfl rfl rfl rfl (by decide) ?_
        -- at 35
        show irun none zp_27 35 _ (iI (M 11 4) :: _) _ _ 0 0 _
        rw [q2]
        refine i_call (T := (47, zp_47)) rfl rfl (st) rfl rfl rfl rfl rfl rfl rfl ?_
        try dsimp only
        show irun none zp_27 38 _ (iI ((1 : Int)) :: _) _ _ 0 0 _
        refine i_if_ne_t rfl (by first | omega | assumption) ?_
        -- at 43
        exact hq
      · have z0 : (sr D1 f1 (M 2) (M 1) n1).1 = 0 := by rcases ok.2.2 with z | z; exact z; exact absurd z h1
        rw [z0] at st ⊢
        refine i_aload_n rfl rfl ?_
        refine i_getr rfl rfl rfl rfl (by decide) rfl ?_
        refine i_getf rfl rfl rfl rfl (by decide) ?_
        refine i_if_le_f rfl (by first | omega | assumption) ?_
        refine i_aload_n rfl rfl ?_
        refine i_getr rfl rfl rfl rfl (by decide) rfl ?_
        refine i_aload_n rfl rfl ?_
        refine i_getr rfl rfl rfl rfl (by decide) rfl ?_
        refine i_getf rfl rfl rfl rfl (by decide) ?_
        -- at 21
        rw [q1]
        refine i_aload_n rfl rfl ?_
        refine i_getr rfl rfl rfl rfl (by decide) rfl ?_
        refine i_getr rfl rfl rfl rfl (by decide) rfl ?_
        refine i_aload_n rfl rfl ?_
        refine i_getr rfl rfl rfl rfl (by decide) rfl ?_
        refine i_getf rfl rfl rfl rfl (by decide) ?_
        -- at 35
        show irun none zp_27 35 _ (iI (M 11 4) :: _) _ _ 0 0 _
        rw [q2]
        refine i_call (T := (47, zp_47)) rfl rfl (st) rfl rfl rfl rfl rfl rfl rfl ?_
        try dsimp only
        show irun none zp_27 38 _ (iI ((0 : Int)) :: _) _ _ 0 0 _
        refine i_if_ne_f rfl (by first | omega | assumption) ?_
        refine i_iconst (n := 0) rfl (by unfold iR; omega) ?_
        -- at 42
        exact i_zreturn rfl rfl (by first | omega | assumption)
  obtain ⟨M1, a1, a2, a3, a4, a5, a6, a7, a8⟩ := s1
  have hop : o = 36 ∨ o = 38 := by rcases hb with ⟨_, _, rfl⟩ | ⟨_, _, rfl⟩ <;> decide
  have no : o ∉ [1, 2, 4] ∧ o + 1 ∉ [1, 2, 4] ∧ o ∉ [34] ∧ o ∉ [1, 2, 4, 34] := by rcases hop with rfl | rfl <;> decide
  unfold wr at hV
  by_cases h1 : (sr D1 f1 (M 2) (M 1) n1).1 = 1
  · rw [if_pos h1, ← a4, ← a5] at hV
    have a1 := a1 h1
    have c1 : M1 o 1 = (c : Int) := by rw [a3 o no.1]; exact hc
    have m1 : ∀ y : Nat, y < 256 → M1 3 y = hN 8 (y : Int) := by rw [a3 3 (by decide)]; exact hm
    -- the index
    have s2 : ∃ M2, ((sr D2 f2 (M1 2) (M1 1) n2).1 = 1 → ∀ q, irun none zp_27 94 [some (iP 0)] [] (SH b) M2 0 0 q → irun none zp_27 43 [some (iP 0)] [] (SH b) M1 0 0 q) ∧ ((sr D2 f2 (M1 2) (M1 1) n2).1 ≠ 1 → irun none zp_27 43 [some (iP 0)] [] (SH b) M1 0 0 (some (sr D2 f2 (M1 2) (M1 1) n2).1, SH b, M2)) ∧ Fr [1, 2, 4, 34] M1 M2 ∧ M2 1 = (sr D2 f2 (M1 2) (M1 1) n2).2.2 ∧ M2 2 = (sr D2 f2 (M1 2) (M1 1) n2).2.1 ∧ by8 (M2 2) 720 ∧ Oo (M2 1) (N + 200) ∧ ((sr D2 f2 (M1 2) (M1 1) n2).1 = 0 ∨ (sr D2 f2 (M1 2) (M1 1) n2).1 = 1) := by
      by_cases c0 : c = 0
      · rw [if_pos c0] at hn2
        subst hn2
        refine ⟨M1, fun _ q hq => ?_, fun q => absurd rfl q, Fr_r _ _, rfl, rfl, a6, ⟨a7.1, a7.2.1, by have := a7.2.2; omega⟩, Or.inr rfl⟩
        rcases hb with ⟨rfl, rfl, rfl⟩ | ⟨rfl, rfl, rfl⟩
        · refine i_aload_n rfl rfl ?_
          refine i_getr (p2 := 38) rfl rfl rfl rfl (by decide) rfl ?_
          refine i_getf rfl rfl rfl rfl (by decide) ?_
          refine i_if_le_t rfl (by first | omega | assumption) ?_
          -- at 94
          exact hq
        · refine i_aload_n rfl rfl ?_
          refine i_getr (p2 := 36) rfl rfl rfl rfl (by decide) rfl ?_
          refine i_getf rfl rfl rfl rfl (by decide) ?_
          refine i_if_le_t rfl (by first | omega | assumption) ?_
          -- at 94
          exact hq
      · rw [if_neg c0] at hn2
        obtain ⟨q1, q2⟩ := hidx (by omega)
        obtain ⟨L, l1, l2, l3, l4⟩ := c_layE (b := b) (M := M1) hop c1 h10
        have l34 : ∀ j, j < 1 + 7 * c → L 34 j = iD c (M (o + 1)) j := by
          intro j hj
          unfold iD
          by_cases e : j = 0
          · rw [e, if_pos rfl]; exact l3
          · rw [if_neg e]
            have := l4 (j - 1) (by omega)
            rw [show 1 + (j - 1) = j by omega] at this
            rw [this, a3 (o + 1) no.2.1]
        have hb8 : by8 (L 34) (1 + 7 * c) := by
          intro j hj
          rw [l34 j hj]
          unfold iD
          by_cases e : j = 0
          · rw [if_pos e]; omega
          · rw [if_neg e]; exact hwb _ (by omega)
        obtain ⟨J, st⟩ := c_storeRun (b := b) (M := L) (first := f2) (t := 34) (size := 1 + 7 * c) (n := 528) (rs := []) rfl (by decide) (by decide) (by decide) (by decide) q2 (by omega) (by decide) (N := N + 100) (by rw [l2 1 (by decide)]; exact a7) (by omega) (by rw [l2 2 (by decide)]; exact a6) hb8 (by rw [l2 3 (by decide)]; exact m1)
        rw [Dz_c l34, eD2, ← hn2, l2 1 (by decide), l2 2 (by decide)] at st
        have ok := sr_ok (first := f2) a7 a6 (D := D2) (by rw [← eD2, ← Dz_c l34]; exact Dz_b hb8) n2 (by omega)
        have bs : irun none zp_56 0 (i_ent [iP o] 1) [] (SH b) L 0 0 (some ((1 + 7 * c : Nat) : Int), SH b, L) := by
          have cL : L o 1 = (c : Int) := by rw [l2 o no.2.2.1]; exact c1
          rcases hop with rfl | rfl
          · refine i_iconst (n := 1) rfl (by unfold iR; omega) ?_
            refine i_aload_n rfl rfl ?_
            refine i_getf rfl rfl rfl rfl (by decide) ?_
            refine i_bipush (n := 7) rfl (by unfold iR; omega) (by decide) ?_
            refine i_imul rfl (by unfold iR; omega) ?_
            refine i_iadd rfl (by unfold iR; omega) ?_
            -- at 9
            rw [show (1 : Int) + L 36 1 * 7 = ((1 + 7 * c : Nat) : Int) by omega]
            exact i_ireturn rfl rfl
          · refine i_iconst (n := 1) rfl (by unfold iR; omega) ?_
            refine i_aload_n rfl rfl ?_
            refine i_getf rfl rfl rfl rfl (by decide) ?_
            refine i_bipush (n := 7) rfl (by unfold iR; omega) (by decide) ?_
            refine i_imul rfl (by unfold iR; omega) ?_
            refine i_iadd rfl (by unfold iR; omega) ?_
            -- at 9
            rw [show (1 : Int) + L 38 1 * 7 = ((1 + 7 * c : Nat) : Int) by omega]
            exact i_ireturn rfl rfl
        have q1L : L o 3 = (f2 : Int) := by rw [l2 o no.2.2.1, a3 o no.1]; exact q1
        refine ⟨va_up (va_up (va_up L 1 (sr D2 f2 (M1 2) (M1 1) n2).2.2) 2 (sr D2 f2 (M1 2) (M1 1) n2).2.1) 4 J, fun h1 q hq => ?_, fun h1 => ?_, Fr_up (Fr_up (Fr_up (Fr_t (Fr_r _ _) l2 (by decide)) (by decide)) (by decide)) (by decide), rfl, rfl, ok.1, ⟨ok.2.1.1, ok.2.1.2.1, by have := ok.2.1.2.2; show (sr D2 f2 (M1 2) (M1 1) n2).2.2 5 ≤ _; omega⟩, ok.2.2⟩
        · rw [h1] at st
          rcases hb with ⟨rfl, rfl, rfl⟩ | ⟨rfl, rfl, rfl⟩
          · refine i_aload_n rfl rfl ?_
            refine i_getr (p2 := 38) rfl rfl rfl rfl (by decide) rfl ?_
            refine i_getf rfl rfl rfl rfl (by decide) ?_
            refine i_if_le_f rfl (by first | omega | assumption) ?_
            refine i_aload_n rfl rfl ?_
            refine i_getr (p2 := 38) rfl rfl rfl rfl (by decide) rfl ?_
            refine i_aload_n rfl rfl ?_
            refine i_getr rfl rfl rfl rfl (by decide) rfl ?_
            -- at 61
            refine i_call (T := (65, zp_65)) rfl rfl (l1) rfl rfl rfl rfl rfl rfl rfl ?_
            try dsimp only
            refine i_aload_n rfl rfl ?_
            refine i_getr rfl rfl rfl rfl (by decide) rfl ?_
            refine i_aload_n rfl rfl ?_
            refine i_getr (p2 := 38) rfl rfl rfl rfl (by decide) rfl ?_
            refine i_getf rfl rfl rfl rfl (by decide) ?_
            -- at 75
            rw [q1L]
            refine i_aload_n rfl rfl ?_
            refine i_getr rfl rfl rfl rfl (by decide) rfl ?_
            refine i_aload_n rfl rfl ?_
            refine i_getr (p2 := 38) rfl rfl rfl rfl (by decide) rfl ?_
            -- at 83
            refine i_call (T := (56, zp_56)) rfl rfl (bs) rfl rfl rfl rfl rfl rfl rfl ?_
            try dsimp only
            show irun none zp_27 86 _ (iI (((1 + 7 * c : Nat) : Int)) :: _) _ _ 0 0 _
            -- at 86
            refine i_call (T := (47, zp_47)) rfl rfl (st) rfl rfl rfl rfl rfl rfl rfl ?_
            try dsimp only
            show irun none zp_27 89 _ (iI ((1 : Int)) :: _) _ _ 0 0 _
            refine i_if_ne_t rfl (by first | omega | assumption) ?_
            -- at 94
            exact hq
          · refine i_aload_n rfl rfl ?_
            refine i_getr (p2 := 36) rfl rfl rfl rfl (by decide) rfl ?_
            refine i_getf rfl rfl rfl rfl (by decide) ?_
            refine i_if_le_f rfl (by first | omega | assumption) ?_
            refine i_aload_n rfl rfl ?_
            refine i_getr (p2 := 36) rfl rfl rfl rfl (by decide) rfl ?_
            refine i_aload_n rfl rfl ?_
            refine i_getr rfl rfl rfl rfl (by decide) rfl ?_
            -- at 61
            refine i_call (T := (65, zp_65)) rfl rfl (l1) rfl rfl rfl rfl rfl rfl rfl ?_
            try dsimp only
            refine i_aload_n rfl rfl ?_
            refine i_getr rfl rfl rfl rfl (by decide) rfl ?_
            refine i_aload_n rfl rfl ?_
            refine i_getr (p2 := 36) rfl rfl rfl rfl (by decide) rfl ?_
            refine i_getf rfl rfl rfl rfl (by decide) ?_
            -- at 75
            rw [q1L]
            refine i_aload_n rfl rfl ?_
            refine i_getr rfl rfl rfl rfl (by decide) rfl ?_
            refine i_aload_n rfl rfl ?_
            refine i_getr (p2 := 36) rfl rfl rfl rfl (by decide) rfl ?_
            -- at 83
            refine i_call (T := (56, zp_56)) rfl rfl (bs) rfl rfl rfl rfl rfl rfl rfl ?_
            try dsimp only
            show irun none zp_27 86 _ (iI (((1 + 7 * c : Nat) : Int)) :: _) _ _ 0 0 _
            -- at 86
            refine i_call (T := (47, zp_47)) rfl rfl (st) rfl rfl rfl rfl rfl rfl rfl ?_
            try dsimp only
            show irun none zp_27 89 _ (iI ((1 : Int)) :: _) _ _ 0 0 _
            refine i_if_ne_t rfl (by first | omega | assumption) ?_
            -- at 94
            exact hq
        · have z0 : (sr D2 f2 (M1 2) (M1 1) n2).1 = 0 := by rcases ok.2.2 with z | z; exact z; exact absurd z h1
          rw [z0] at st ⊢
          rcases hb with ⟨rfl, rfl, rfl⟩ | ⟨rfl, rfl, rfl⟩
          · refine i_aload_n rfl rfl ?_
            refine i_getr (p2 := 38) rfl rfl rfl rfl (by decide) rfl ?_
            refine i_getf rfl rfl rfl rfl (by decide) ?_
            refine i_if_le_f rfl (by first | omega | assumption) ?_
            refine i_aload_n rfl rfl ?_
            refine i_getr (p2 := 38) rfl rfl rfl rfl (by decide) rfl ?_
            refine i_aload_n rfl rfl ?_
            refine i_getr rfl rfl rfl rfl (by decide) rfl ?_
            -- at 61
            refine i_call (T := (65, zp_65)) rfl rfl (l1) rfl rfl rfl rfl rfl rfl rfl ?_
            try dsimp only
            refine i_aload_n rfl rfl ?_
            refine i_getr rfl rfl rfl rfl (by decide) rfl ?_
            refine i_aload_n rfl rfl ?_
            refine i_getr (p2 := 38) rfl rfl rfl rfl (by decide) rfl ?_
            refine i_getf rfl rfl rfl rfl (by decide) ?_
            -- at 75
            rw [q1L]
            refine i_aload_n rfl rfl ?_
            refine i_getr rfl rfl rfl rfl (by decide) rfl ?_
            refine i_aload_n rfl rfl ?_
            refine i_getr (p2 := 38) rfl rfl rfl rfl (by decide) rfl ?_
            -- at 83
            refine i_call (T := (56, zp_56)) rfl rfl (bs) rfl rfl rfl rfl rfl rfl rfl ?_
            try dsimp only
            show irun none zp_27 86 _ (iI (((1 + 7 * c : Nat) : Int)) :: _) _ _ 0 0 _
            -- at 86
            refine i_call (T := (47, zp_47)) rfl rfl (st) rfl rfl rfl rfl rfl rfl rfl ?_
            try dsimp only
            show irun none zp_27 89 _ (iI ((0 : Int)) :: _) _ _ 0 0 _
            refine i_if_ne_f rfl (by first | omega | assumption) ?_
            refine i_iconst (n := 0) rfl (by unfold iR; omega) ?_
            -- at 93
            exact i_zreturn rfl rfl (by first | omega | assumption)
          · refine i_aload_n rfl rfl ?_
            refine i_getr (p2 := 36) rfl rfl rfl rfl (by decide) rfl ?_
            refine i_getf rfl rfl rfl rfl (by decide) ?_
            refine i_if_le_f rfl (by first | omega | assumption) ?_
            refine i_aload_n rfl rfl ?_
            refine i_getr (p2 := 36) rfl rfl rfl rfl (by decide) rfl ?_
            refine i_aload_n rfl rfl ?_
            refine i_getr rfl rfl rfl rfl (by decide) rfl ?_
            -- at 61
            refine i_call (T := (65, zp_65)) rfl rfl (l1) rfl rfl rfl rfl rfl rfl rfl ?_
            try dsimp only
            refine i_aload_n rfl rfl ?_
            refine i_getr rfl rfl rfl rfl (by decide) rfl ?_
            refine i_aload_n rfl rfl ?_
            refine i_getr (p2 := 36) rfl rfl rfl rfl (by decide) rfl ?_
            refine i_getf rfl rfl rfl rfl (by decide) ?_
            -- at 75
            rw [q1L]
            refine i_aload_n rfl rfl ?_
            refine i_getr rfl rfl rfl rfl (by decide) rfl ?_
            refine i_aload_n rfl rfl ?_
            refine i_getr (p2 := 36) rfl rfl rfl rfl (by decide) rfl ?_
            -- at 83
            refine i_call (T := (56, zp_56)) rfl rfl (bs) rfl rfl rfl rfl rfl rfl rfl ?_
            try dsimp only
            show irun none zp_27 86 _ (iI (((1 + 7 * c : Nat) : Int)) :: _) _ _ 0 0 _
            -- at 86
            refine i_call (T := (47, zp_47)) rfl rfl (st) rfl rfl rfl rfl rfl rfl rfl ?_
            try dsimp only
            show irun none zp_27 89 _ (iI ((0 : Int)) :: _) _ _ 0 0 _
            refine i_if_ne_f rfl (by first | omega | assumption) ?_
            refine i_iconst (n := 0) rfl (by unfold iR; omega) ?_
            -- at 93
            exact i_zreturn rfl rfl (by first | omega | assumption)
    obtain ⟨M2, b1, b2, b3, b4, b5, b6, b7, b8⟩ := s2
    have f2' : Fr [1, 2, 4, 34] M M2 := Fr_t (Fr_t (Fr_r _ _) a3 (by decide)) b3 (by decide)
    by_cases h2 : (sr D2 f2 (M1 2) (M1 1) n2).1 = 1
    · rw [if_pos h2, ← b4, ← b5] at hV
      have b1 := b1 h2
      have eo : M2 o = M o := f2' o no.2.2.2
      obtain ⟨L, l1, l2, l3, l4, l5, l6, l7⟩ := c_layH (b := b) (M := M2) hop
      rw [eo] at l5 l6 l7
      have l34 : ∀ j, j < 5 → L 34 j = hD x (M o 3) (M o 4) j := by
        intro j hj
        unfold hD
        rcases (show j = 0 ∨ j = 1 ∨ j = 2 ∨ j = 3 ∨ j = 4 by omega) with e | e | e | e | e <;> subst e
        · exact l3
        · exact l4
        · rw [l5, hx]; rfl
        · exact l6
        · exact l7
      have hb8 : by8 (L 34) 5 := by
        intro j hj
        rw [l34 j hj]
        unfold hD
        split
        · omega
        · split
          · omega
          · split
            · omega
            · split
              · exact h3
              · exact h4
      obtain ⟨J, st⟩ := c_storeRun (b := b) (M := L) (first := x % 2) (t := 34) (size := 5) (n := 528) (rs := []) rfl (by decide) (by decide) (by decide) (by decide) (by omega) (by omega) (by decide) (N := N + 200) (by rw [l2 1 (by decide)]; exact b7) (by omega) (by rw [l2 2 (by decide)]; exact b6) hb8 (by rw [l2 3 (by decide), f2' 3 (by decide)]; exact hm)
      rw [Dz_c l34, eD3, l2 1 (by decide), l2 2 (by decide), ← hV] at st
      have ok := sr_ok (first := x % 2) b7 b6 (D := D3) (by rw [← eD3, ← Dz_c l34]; exact Dz_b hb8) 1 (by omega)
      rw [← hV] at ok
      have xL : L o 2 = (x : Int) := by rw [l2 o no.2.2.1, eo]; exact hx
      refine ⟨va_up (va_up (va_up L 1 V.2.2) 2 V.2.1) 4 J, a1 _ (b1 _ ?_), Fr_up (Fr_up (Fr_up (Fr_t f2' l2 (by decide)) (by decide)) (by decide)) (by decide), rfl, rfl, ok.1, ⟨ok.2.1.1, ok.2.1.2.1, by have := ok.2.1.2.2; show V.2.2 5 ≤ _; omega⟩, ok.2.2, fun hv => ?_⟩
      rotate_left
      · have e3 := sr_5 (D := D3) (first := x % 2) (f := M2 2) (O := M2 1) 1 (by rw [← hV]; exact hv)
        rw [← hV] at e3
        have e2 := sr_5 (D := D2) (first := f2) (f := M1 2) (O := M1 1) n2 h2
        have e1 := sr_5 (D := D1) (first := f1) (f := M 2) (O := M 1) n1 h1
        rw [← b4] at e2
        rw [← a4] at e1
        omega
      have v01 := ok.2.2
      rcases hb with ⟨rfl, rfl, rfl⟩ | ⟨rfl, rfl, rfl⟩
      · refine i_aload_n rfl rfl ?_
        refine i_getr (p2 := 38) rfl rfl rfl rfl (by decide) rfl ?_
        refine i_aload_n rfl rfl ?_
        refine i_getr rfl rfl rfl rfl (by decide) rfl ?_
        -- at 102
        refine i_call (T := (64, zp_64)) rfl rfl (l1) rfl rfl rfl rfl rfl rfl rfl ?_
        try dsimp only
        refine i_aload_n rfl rfl ?_
        refine i_getr rfl rfl rfl rfl (by decide) rfl ?_
        refine i_aload_n rfl rfl ?_
        refine i_getr (p2 := 38) rfl rfl rfl rfl (by decide) rfl ?_
        refine i_getf rfl rfl rfl rfl (by decide) ?_
        -- at 116
        rw [xL]
        refine i_iconst (n := 2) rfl (by unfold iR; omega) ?_
        refine i_irem rfl (by first | omega | assumption) (by first | omega | assumption) ?_
        -- at 118
        rw [show (x : Int) % 2 = ((x % 2 : Nat) : Int) by omega]
        refine i_aload_n rfl rfl ?_
        refine i_getr rfl rfl rfl rfl (by decide) rfl ?_
        refine i_iconst (n := 5) rfl (by unfold iR; omega) ?_
        -- at 123
        refine i_call (T := (47, zp_47)) rfl rfl (st) rfl rfl rfl rfl rfl rfl rfl ?_
        try dsimp only
        show irun none zp_27 126 _ (iI (V.1) :: _) _ _ 0 0 _
        exact i_zreturn rfl rfl (by first | omega | assumption)
      · refine i_aload_n rfl rfl ?_
        refine i_getr (p2 := 36) rfl rfl rfl rfl (by decide) rfl ?_
        refine i_aload_n rfl rfl ?_
        refine i_getr rfl rfl rfl rfl (by decide) rfl ?_
        -- at 102
        refine i_call (T := (64, zp_64)) rfl rfl (l1) rfl rfl rfl rfl rfl rfl rfl ?_
        try dsimp only
        refine i_aload_n rfl rfl ?_
        refine i_getr rfl rfl rfl rfl (by decide) rfl ?_
        refine i_aload_n rfl rfl ?_
        refine i_getr (p2 := 36) rfl rfl rfl rfl (by decide) rfl ?_
        refine i_getf rfl rfl rfl rfl (by decide) ?_
        -- at 116
        rw [xL]
        refine i_iconst (n := 2) rfl (by unfold iR; omega) ?_
        refine i_irem rfl (by first | omega | assumption) (by first | omega | assumption) ?_
        -- at 118
        rw [show (x : Int) % 2 = ((x % 2 : Nat) : Int) by omega]
        refine i_aload_n rfl rfl ?_
        refine i_getr rfl rfl rfl rfl (by decide) rfl ?_
        refine i_iconst (n := 5) rfl (by unfold iR; omega) ?_
        -- at 123
        refine i_call (T := (47, zp_47)) rfl rfl (st) rfl rfl rfl rfl rfl rfl rfl ?_
        try dsimp only
        show irun none zp_27 126 _ (iI (V.1) :: _) _ _ 0 0 _
        exact i_zreturn rfl rfl (by first | omega | assumption)
    · rw [if_neg h2] at hV
      refine ⟨M2, a1 _ ?_, f2', by rw [b4, hV], by rw [b5, hV], b6, ⟨b7.1, b7.2.1, by have := b7.2.2; omega⟩, by rw [hV]; exact b8, fun hv => absurd (by rw [← hV]; exact hv) h2⟩
      rw [hV]
      exact b2 h2
  · rw [if_neg h1] at hV
    refine ⟨M1, ?_, Fr_t (Fr_r _ _) a3 (by decide), by rw [a4, hV], by rw [a5, hV], a6, ⟨a7.1, a7.2.1, by have := a7.2.2; omega⟩, by rw [hV]; exact a8, fun hv => absurd (by rw [← hV]; exact hv) h1⟩
    rw [hV]
    exact a2 h1
