theorem i_sw_ok {pc : Nat} {a d lo hi : Int} {o : Array Int} (ha : iR a) : z_sw pc (Int32.ofInt a) d lo hi o = (if a < lo ∨ hi < a then (if 0 ≤ (pc : Int) + d then some ((pc : Int) + d).toNat else none) else match o[(a - lo).toNat]? with
    | some k => if 0 ≤ (pc : Int) + k then some ((pc : Int) + k).toNat else none
    | none => none) := by
  unfold z_sw
  rw [iR_toInt ha]
  rfl
theorem i_tsw {scr : iS} {P : zP} {pc : Nat} {loc : List (Option iV)} {stk : List iV} {sh : List zS} {M : iM} {kc ks : Nat} {q : Option Int × List zS × iM} {x y t : Nat} {a d lo hi : Int} {o : Array Int} (hE : z_find (z_cd P) pc = some (pc, .tableswitch d lo hi o, x, y))
    (ht : (if a < lo ∨ hi < a then (if 0 ≤ (pc : Int) + d then some ((pc : Int) + d).toNat else none) else match o[(a - lo).toNat]? with
    | some k => if 0 ≤ (pc : Int) + k then some ((pc : Int) + k).toNat else none
    | none => none) = some t) (k : irun scr P t loc stk sh M kc ks q) : irun scr P pc loc (iI a :: stk) sh M kc ks q := by
  refine i_step1 hE rfl (fun h1 h2 h3 => ?_) k
  obtain ⟨h4, h3⟩ := i_c2 h3
  refine ⟨⟨h1, h2, h3⟩, ?_⟩
  show (match z_sw pc (Int32.ofInt a) d lo hi o with
    | none => none
    | some t => some (t, loc.map (Option.map i_v), stk.map i_v, sh, i_M M, kc, ks)) = _
  rw [i_sw_ok h4, ht]
def cpd (f g : Nat → Int) (t n : Nat) : Nat → Int := fun j => if t ≤ j ∧ j < t + n then g (j - t) else f j
theorem cpd_s {f g : Nat → Int} {t k : Nat} : va_up (cpd f g t k) (t + k) (g k) = cpd f g t (k + 1) := by
  funext j
  have e : g k = g (t + k - t) := by rw [show t + k - t = k by omega]
  unfold cpd
  grind [va_up]
set_option maxRecDepth 100000 in
theorem o_add {w : Int} {b : Bool} {M : iM} {name : Int} (h : Inv w b M) : Op w b M zp_2 zp_145 [iI name] := by
  have hi := h
  obtain ⟨h1, ⟨a1, a2, a3⟩, h3, h4, ⟨⟨d1, d2, d3⟩, d4⟩, ⟨⟨e1, e2, e3⟩, ⟨e4, e5⟩, e6, e7⟩, h7, h8⟩ := hi
  rcases a1 with a1 | a1
  · by_cases hn : 0 ≤ name ∧ name < 8
    · obtain ⟨A, hA⟩ := Int.eq_ofNat_of_zero_le e2
      have hA : M 5 6 = (A : Int) := hA
      obtain ⟨D, hD⟩ := Int.eq_ofNat_of_zero_le d2
      have hD : M 5 5 = (D : Int) := hD
      rw [hA, show (A : Int).toNat = A by omega] at e5
      have hsb := sm_b (f := M 9) (B := 24) (n := A) (fun k hk => (e6 k (by omega)).2.2)
      obtain ⟨T, hT⟩ := Int.eq_ofNat_of_zero_le (show 0 ≤ M 5 7 by omega)
      have hT : M 5 7 = (T : Int) := hT
      by_cases hf : M 5 6 < 4
      · have hTD : T + D ≤ 96 := by omega
        have ecp : i_cp M 6 (0 : Int).toNat 7 (M 5 7).toNat (M 5 5).toNat = va_up M 7 (cpd (M 7) (M 6) T D) := by
          refine cp_up ?_
          rw [hT, hD]
          funext j
          unfold va_cpy cpd
          simp
        refine ⟨((A + 1 : Nat) : Int), b, va_up (va_up (va_up (va_up M 7 (cpd (M 7) (M 6) T D)) 8 (va_up (M 8) A name)) 9 (va_up (M 9) A (D : Int))) 5 (va_up (va_up (va_up (M 5) 7 ((T + D : Nat) : Int)) 6 ((A + 1 : Nat) : Int)) 5 0),
          va_up (va_up (va_up (va_up (va_up (va_up (va_up (va_up M 7 (cpd (M 7) (M 6) T D)) 8 (va_up (M 8) A name)) 9 (va_up (M 9) A (D : Int))) 5 (va_up (va_up (va_up (M 5) 7 ((T + D : Nat) : Int)) 6 ((A + 1 : Nat) : Int)) 5 0)) 46 (va_up (M 46) A name)) 47 (va_up (M 47) A (D : Int))) 48 (cpd (M 48) (M 45) T D)) 40 (va_up (va_up (va_up (M 40) 14 ((T + D : Nat) : Int)) 12 0) 13 ((A + 1 : Nat) : Int)), ?_, ?_, ?_⟩
        · have had : irun none zp_72 0 (i_ent [iP 5, iI name] 2) [] (SH b) M 0 0 (some 1, SH b, va_up (va_up (va_up (va_up M 7 (cpd (M 7) (M 6) T D)) 8 (va_up (M 8) A name)) 9 (va_up (M 9) A (D : Int))) 5 (va_up (va_up (va_up (M 5) 7 ((T + D : Nat) : Int)) 6 ((A + 1 : Nat) : Int)) 5 0)) := by
            refine i_aload_n rfl rfl ?_
            refine i_getf rfl rfl rfl rfl (by decide) ?_
            refine i_iconst (n := 4) rfl (by unfold iR; omega) ?_
            refine i_icmp_lt_t rfl (by first | omega | assumption) ?_
            refine i_aload_n rfl rfl ?_
            refine i_getr rfl rfl rfl rfl (by decide) rfl ?_
            refine i_iconst (n := 0) rfl (by unfold iR; omega) ?_
            refine i_aload_n rfl rfl ?_
            refine i_getr rfl rfl rfl rfl (by decide) rfl ?_
            refine i_aload_n rfl rfl ?_
            refine i_getf rfl rfl rfl rfl (by decide) ?_
            refine i_aload_n rfl rfl ?_
            refine i_getf rfl rfl rfl rfl (by decide) ?_
            -- at 27
            refine i_copy (n0 := 24) (n1 := 96) (r0 := []) (r1 := []) rfl rfl rfl rfl (by omega) (by omega) (by omega) (by omega) (by omega) (Nat.le_of_ble_eq_true rfl) ?_
            rw [ecp]
            refine i_aload_n rfl rfl ?_
            refine i_getr rfl rfl rfl rfl (by decide) rfl ?_
            refine i_aload_n rfl rfl ?_
            refine i_getf rfl rfl rfl rfl (by decide) ?_
            show irun none zp_72 38 _ [iI (M 5 6), iP 8] _ _ 0 0 _
            rw [hA]
            refine i_iload_n rfl rfl ?_
            refine i_iast rfl rfl (by first | omega | assumption) (by first | omega | assumption) ?_
            refine i_aload_n rfl rfl ?_
            refine i_getr rfl rfl rfl rfl (by decide) rfl ?_
            refine i_aload_n rfl rfl ?_
            -- at 45
            rw [show (A : Int).toNat = A by omega, show i_st (va_up M 7 (cpd (M 7) (M 6) T D)) 8 A name = va_up (va_up M 7 (cpd (M 7) (M 6) T D)) 8 (va_up (M 8) A name) from rfl]
            refine i_getf rfl rfl rfl rfl (by decide) ?_
            refine i_aload_n rfl rfl ?_
            refine i_getf rfl rfl rfl rfl (by decide) ?_
            show irun none zp_72 52 _ [iI (M 5 5), iI (M 5 6), iP 9] _ _ 0 0 _
            rw [hA, hD]
            refine i_iast rfl rfl (by first | omega | assumption) (by first | omega | assumption) ?_
            refine i_aload_n rfl rfl ?_
            first | refine i_dup rfl ?_ | refine i_dupr rfl ?_
            -- at 55
            rw [show (A : Int).toNat = A by omega, show i_st (va_up (va_up M 7 (cpd (M 7) (M 6) T D)) 8 (va_up (M 8) A name)) 9 A (D : Int) = va_up (va_up (va_up M 7 (cpd (M 7) (M 6) T D)) 8 (va_up (M 8) A name)) 9 (va_up (M 9) A (D : Int)) from rfl]
            refine i_getf rfl rfl rfl rfl (by decide) ?_
            refine i_aload_n rfl rfl ?_
            refine i_getf rfl rfl rfl rfl (by decide) ?_
            show irun none zp_72 62 _ [iI (M 5 5), iI (M 5 7), iP 5] _ _ 0 0 _
            rw [hD, hT]
            refine i_iadd rfl (by unfold iR; omega) ?_
            refine i_puti rfl rfl rfl rfl ?_
            refine i_aload_n rfl rfl ?_
            first | refine i_dup rfl ?_ | refine i_dupr rfl ?_
            -- at 68
            refine i_getf rfl rfl rfl rfl (by decide) ?_
            show irun none zp_72 71 _ [iI (M 5 6), iP 5] _ _ 0 0 _
            rw [hA]
            refine i_iconst (n := 1) rfl (by unfold iR; omega) ?_
            refine i_iadd rfl (by unfold iR; omega) ?_
            refine i_puti rfl rfl rfl rfl ?_
            refine i_aload_n rfl rfl ?_
            refine i_iconst (n := 0) rfl (by unfold iR; omega) ?_
            refine i_puti rfl rfl rfl rfl ?_
            refine i_iconst (n := 1) rfl (by unfold iR; omega) ?_
            -- at 82
            simp only [i_st, up_up, up_s]
            exact i_zreturn rfl rfl (by first | omega | assumption)
          refine i_aload_n rfl rfl ?_
          refine i_getr rfl rfl rfl rfl (by decide) rfl ?_
          -- at 4
          refine i_call (T := (34, zp_34)) rfl rfl (c_isStopped (Or.inl a1)) rfl rfl rfl rfl rfl rfl rfl ?_
          try dsimp only
          show irun none zp_2 7 _ [iI (M 1 4)] _ _ 0 0 _
          refine i_if_eq_t rfl (by first | omega | assumption) ?_
          refine i_iload_n rfl rfl ?_
          refine i_if_lt_f rfl (by first | omega | assumption) ?_
          refine i_iload_n rfl rfl ?_
          refine i_bipush (n := 8) rfl (by unfold iR; omega) (by decide) ?_
          refine i_icmp_lt_t rfl (by first | omega | assumption) ?_
          refine i_aload_n rfl rfl ?_
          refine i_getr rfl rfl rfl rfl (by decide) rfl ?_
          refine i_iload_n rfl rfl ?_
          -- at 30
          refine i_call (T := (72, zp_72)) rfl rfl (had) rfl rfl rfl rfl rfl rfl rfl ?_
          try dsimp only
          refine i_if_eq_f rfl (by first | omega | assumption) ?_
          refine i_aload_n rfl rfl ?_
          refine i_getr rfl rfl rfl rfl (by decide) rfl ?_
          refine i_getf rfl rfl rfl rfl (by decide) ?_
          refine i_goto rfl ?_
          -- at 48
          exact i_ireturn rfl rfl
        · generalize hMX : va_up (va_up (va_up (va_up M 7 (cpd (M 7) (M 6) T D)) 8 (va_up (M 8) A name)) 9 (va_up (M 9) A (D : Int))) 5 (va_up (va_up (va_up (M 5) 7 ((T + D : Nat) : Int)) 6 ((A + 1 : Nat) : Int)) 5 0) = N
          have n40 : N 40 = M 40 := by rw [← hMX]; rfl
          have n45 : N 45 = M 45 := by rw [← hMX]; rfl
          have n46 : N 46 = M 46 := by rw [← hMX]; rfl
          have n47 : N 47 = M 47 := by rw [← hMX]; rfl
          have n48 : N 48 = M 48 := by rw [← hMX]; rfl
          have q1 : N 40 1 = 0 := by rw [n40]; exact a2.trans a1
          have q13 : N 40 13 = (A : Int) := by rw [n40]; exact e1.trans hA
          have q12 : N 40 12 = (D : Int) := by rw [n40]; exact d1.trans hD
          have q14 : N 40 14 = (T : Int) := by rw [n40]; exact e4.trans hT
          rw [← n40, ← n45, ← n46, ← n47, ← n48]
          clear hMX
          have loop : ∀ (q : Option Int × List zS × iM), irun none zp_145 89 [some (iP 40), some (iI name), some (iI (D : Int))] [] (SH b) (va_up (va_up (va_up N 46 (va_up (N 46) A name)) 47 (va_up (N 47) A (D : Int))) 48 (cpd (N 48) (N 45) T D)) 0 0 q → ∀ (c k : Nat), k + c = D → irun none zp_145 58 [some (iP 40), some (iI name), some (iI (k : Int))] [] (SH b) (va_up (va_up (va_up N 46 (va_up (N 46) A name)) 47 (va_up (N 47) A (D : Int))) 48 (cpd (N 48) (N 45) T k)) 0 0 q := by
            intro q kq c
            induction c with
            | zero =>
              intro k hk
              obtain rfl : k = D := by omega
              refine i_iload_n rfl rfl ?_
              refine i_aload_n rfl rfl ?_
              refine i_getf rfl rfl rfl rfl (by decide) ?_
              -- at 63
              show irun none zp_145 63 _ [iI (N 40 12), iI (k : Int)] _ _ 0 0 _
              refine i_icmp_ge_t rfl (by first | omega | assumption) ?_
              -- at 89
              exact kq
            | succ c ih =>
              intro k hk
              have hnx := ih (k + 1) (by omega)
              refine i_iload_n rfl rfl ?_
              refine i_aload_n rfl rfl ?_
              refine i_getf rfl rfl rfl rfl (by decide) ?_
              -- at 63
              show irun none zp_145 63 _ [iI (N 40 12), iI (k : Int)] _ _ 0 0 _
              refine i_icmp_ge_f rfl (by first | omega | assumption) ?_
              refine i_aload_n rfl rfl ?_
              refine i_getr rfl rfl rfl rfl (by decide) rfl ?_
              refine i_aload_n rfl rfl ?_
              refine i_getf rfl rfl rfl rfl (by decide) ?_
              -- at 74
              show irun none zp_145 74 _ [iI (N 40 14), iP 48] _ _ 0 0 _
              rw [q14]
              refine i_iload_n rfl rfl ?_
              refine i_iadd rfl (by unfold iR; omega) ?_
              refine i_aload_n rfl rfl ?_
              refine i_getr rfl rfl rfl rfl (by decide) rfl ?_
              refine i_iload_n rfl rfl ?_
              refine i_iald rfl rfl (by first | omega | assumption) (by first | omega | assumption) (by decide) ?_
              refine i_iast rfl rfl (by first | omega | assumption) (by first | omega | assumption) ?_
              refine i_iinc rfl rfl (by unfold iR; omega) (Nat.le_of_ble_eq_true rfl) rfl ?_
              refine i_goto rfl ?_
              -- at 58
              rw [st_up (g := cpd (N 48) (N 45) T (k + 1))]
              · exact hnx
              · rw [show ((T : Int) + (k : Int)).toNat = T + k by omega, show (k : Int).toNat = k by omega]
                exact cpd_s
          have h0 := loop (some ((A + 1 : Nat) : Int), SH b, va_up (va_up (va_up (va_up N 46 (va_up (N 46) A name)) 47 (va_up (N 47) A (D : Int))) 48 (cpd (N 48) (N 45) T D)) 40 (va_up (va_up (va_up (N 40) 14 ((T + D : Nat) : Int)) 12 0) 13 ((A + 1 : Nat) : Int))) ?_ D 0 (by omega)
          · rw [up_id (va_up (va_up N 46 (va_up (N 46) A name)) 47 (va_up (N 47) A (D : Int))) 48 (f := cpd (N 48) (N 45) T 0) (by funext j; unfold cpd; rw [if_neg (by omega)]; rfl)] at h0
            refine i_aload_n rfl rfl ?_
            refine i_getf rfl rfl rfl rfl (by decide) ?_
            refine i_if_eq_t rfl (by first | omega | assumption) ?_
            refine i_iload_n rfl rfl ?_
            refine i_if_lt_f rfl (by first | omega | assumption) ?_
            refine i_iload_n rfl rfl ?_
            refine i_bipush (n := 7) rfl (by unfold iR; omega) (by decide) ?_
            refine i_icmp_le_t rfl (by first | omega | assumption) ?_
            refine i_aload_n rfl rfl ?_
            -- at 23
            refine i_getf rfl rfl rfl rfl (by decide) ?_
            rw [q13]
            refine i_iconst (n := 4) rfl (by unfold iR; omega) ?_
            refine i_icmp_ne_t rfl (by first | omega | assumption) ?_
            refine i_aload_n rfl rfl ?_
            refine i_getr rfl rfl rfl rfl (by decide) rfl ?_
            refine i_aload_n rfl rfl ?_
            -- at 38
            refine i_getf rfl rfl rfl rfl (by decide) ?_
            rw [q13]
            refine i_iload_n rfl rfl ?_
            refine i_iast rfl rfl (by first | omega | assumption) (by first | omega | assumption) ?_
            refine i_aload_n rfl rfl ?_
            refine i_getr rfl rfl rfl rfl (by decide) rfl ?_
            refine i_aload_n rfl rfl ?_
            -- at 48
            rw [show (A : Int).toNat = A by omega]
            refine i_getf rfl rfl rfl rfl (by decide) ?_
            refine i_aload_n rfl rfl ?_
            refine i_getf rfl rfl rfl rfl (by decide) ?_
            show irun none zp_145 55 _ [iI (N 40 12), iI (N 40 13), iP 47] _ _ 0 0 _
            rw [q12, q13]
            refine i_iast rfl rfl (by first | omega | assumption) (by first | omega | assumption) ?_
            refine i_iconst (n := 0) rfl (by unfold iR; omega) ?_
            refine i_istore_n rfl (Nat.le_of_ble_eq_true rfl) rfl ?_
            -- at 58
            rw [show (A : Int).toNat = A by omega]
            exact h0
          · refine i_aload_n rfl rfl ?_
            refine i_aload_n rfl rfl ?_
            -- at 91
            refine i_getf rfl rfl rfl rfl (by decide) ?_
            refine i_aload_n rfl rfl ?_
            refine i_getf rfl rfl rfl rfl (by decide) ?_
            show irun none zp_145 98 _ [iI (N 40 12), iI (N 40 14), iP 40] _ _ 0 0 _
            rw [q12, q14]
            refine i_iadd rfl (by unfold iR; omega) ?_
            refine i_puti rfl rfl rfl rfl ?_
            refine i_aload_n rfl rfl ?_
            refine i_iconst (n := 0) rfl (by unfold iR; omega) ?_
            refine i_puti rfl rfl rfl rfl ?_
            refine i_aload_n rfl rfl ?_
            first | refine i_dup rfl ?_ | refine i_dupr rfl ?_
            -- at 109
            refine i_getf rfl rfl rfl rfl (by decide) ?_
            show irun none zp_145 112 _ [iI (N 40 13), iP 40] _ _ 0 0 _
            rw [q13]
            refine i_iconst (n := 1) rfl (by unfold iR; omega) ?_
            refine i_iadd rfl (by unfold iR; omega) ?_
            refine i_puti rfl rfl rfl rfl ?_
            refine i_aload_n rfl rfl ?_
            refine i_getf rfl rfl rfl rfl (by decide) ?_
            -- at 121
            simp only [i_st, up_up, up_s]
            exact i_ireturn rfl rfl
        · refine ⟨h1, (Inv_w (w := w) (v := w + 300) h (by omega)).2.1, ?_, h4, ⟨⟨rfl, ?_, ?_⟩, fun k hk => ?_⟩, ⟨⟨rfl, ?_, ?_⟩, ⟨rfl, ?_⟩, fun k hk => ?_, fun k hk => ?_⟩, ?_, h8⟩
          · cases b <;> exact h3
          · show (0 : Int) ≤ 0; omega
          · show (0 : Int) ≤ 24; omega
          · have hk : (k : Int) < 0 := hk
            omega
          · show (0 : Int) ≤ ((A + 1 : Nat) : Int); omega
          · show ((A + 1 : Nat) : Int) ≤ 4; omega
          · show ((T + D : Nat) : Int) = sm (va_up (M 9) A (D : Int)) (((A + 1 : Nat) : Int)).toNat
            rw [show (((A + 1 : Nat) : Int)).toNat = A + 1 by omega]
            show _ = sm (va_up (M 9) A (D : Int)) A + va_up (M 9) A (D : Int) A
            rw [sm_set, if_neg (by omega), up_s]
            omega
          · have hk : (k : Int) < ((A + 1 : Nat) : Int) := hk
            show (va_up (M 46) A name k = va_up (M 8) A name k ∧ 0 ≤ va_up (M 8) A name k ∧ va_up (M 8) A name k ≤ 7) ∧ va_up (M 47) A (D : Int) k = va_up (M 9) A (D : Int) k ∧ 0 ≤ va_up (M 9) A (D : Int) k ∧ va_up (M 9) A (D : Int) k ≤ 24
            by_cases ek : k = A
            · subst ek
              rw [up_s, up_s, up_s, up_s]
              exact ⟨⟨rfl, hn.1, by omega⟩, rfl, by omega, by omega⟩
            · rw [up_n ek, up_n ek, up_n ek, up_n ek]
              exact e6 k (by omega)
          · have hk : (k : Int) < ((T + D : Nat) : Int) := hk
            show cpd (M 48) (M 45) T D k = cpd (M 7) (M 6) T D k ∧ 0 ≤ cpd (M 7) (M 6) T D k ∧ cpd (M 7) (M 6) T D k < 256
            unfold cpd
            by_cases c : T ≤ k ∧ k < T + D
            · rw [if_pos c, if_pos c]
              exact d4 _ (by omega)
            · rw [if_neg c, if_neg c]
              exact e7 k (by omega)
          · cases b <;> exact h7
      · refine ⟨-4, b, M, M, ?_, ?_, Inv_w h (by omega)⟩
        · have had : irun none zp_72 0 (i_ent [iP 5, iI name] 2) [] (SH b) M 0 0 (some 0, SH b, M) := by
            refine i_aload_n rfl rfl ?_
            refine i_getf rfl rfl rfl rfl (by decide) ?_
            refine i_iconst (n := 4) rfl (by unfold iR; omega) ?_
            refine i_icmp_lt_f rfl (by first | omega | assumption) ?_
            refine i_iconst (n := 0) rfl (by unfold iR; omega) ?_
            -- at 9
            exact i_zreturn rfl rfl (by first | omega | assumption)
          refine i_aload_n rfl rfl ?_
          refine i_getr rfl rfl rfl rfl (by decide) rfl ?_
          -- at 4
          refine i_call (T := (34, zp_34)) rfl rfl (c_isStopped (Or.inl a1)) rfl rfl rfl rfl rfl rfl rfl ?_
          try dsimp only
          show irun none zp_2 7 _ [iI (M 1 4)] _ _ 0 0 _
          refine i_if_eq_t rfl (by first | omega | assumption) ?_
          refine i_iload_n rfl rfl ?_
          refine i_if_lt_f rfl (by first | omega | assumption) ?_
          refine i_iload_n rfl rfl ?_
          refine i_bipush (n := 8) rfl (by unfold iR; omega) (by decide) ?_
          refine i_icmp_lt_t rfl (by first | omega | assumption) ?_
          refine i_aload_n rfl rfl ?_
          refine i_getr rfl rfl rfl rfl (by decide) rfl ?_
          refine i_iload_n rfl rfl ?_
          -- at 30
          refine i_call (T := (72, zp_72)) rfl rfl (had) rfl rfl rfl rfl rfl rfl rfl ?_
          try dsimp only
          refine i_if_eq_t rfl (by first | omega | assumption) ?_
          refine i_bipush (n := -4) rfl (by unfold iR; omega) (by decide) ?_
          -- at 48
          exact i_ireturn rfl rfl
        · refine i_aload_n rfl rfl ?_
          refine i_getf rfl rfl rfl rfl (by decide) ?_
          refine i_if_eq_t rfl (by first | omega | assumption) ?_
          refine i_iload_n rfl rfl ?_
          refine i_if_lt_f rfl (by first | omega | assumption) ?_
          refine i_iload_n rfl rfl ?_
          refine i_bipush (n := 7) rfl (by unfold iR; omega) (by decide) ?_
          refine i_icmp_le_t rfl (by first | omega | assumption) ?_
          refine i_aload_n rfl rfl ?_
          refine i_getf rfl rfl rfl rfl (by decide) ?_
          refine i_iconst (n := 4) rfl (by unfold iR; omega) ?_
          refine i_icmp_ne_f rfl (by first | omega | assumption) ?_
          refine i_bipush (n := -4) rfl (by unfold iR; omega) (by decide) ?_
          -- at 32
          exact i_ireturn rfl rfl
    · refine ⟨-1, b, M, M, ?_, ?_, Inv_w h (by omega)⟩
      · refine i_aload_n rfl rfl ?_
        refine i_getr rfl rfl rfl rfl (by decide) rfl ?_
        -- at 4
        refine i_call (T := (34, zp_34)) rfl rfl (c_isStopped (Or.inl a1)) rfl rfl rfl rfl rfl rfl rfl ?_
        try dsimp only
        show irun none zp_2 7 _ [iI (M 1 4)] _ _ 0 0 _
        by_cases c : name < 0
        · refine i_if_eq_t rfl (by first | omega | assumption) ?_
          refine i_iload_n rfl rfl ?_
          refine i_if_lt_t rfl (by first | omega | assumption) ?_
          refine i_iconst (n := -1) rfl (by unfold iR; omega) ?_
          -- at 24
          exact i_ireturn rfl rfl
        · refine i_if_eq_t rfl (by first | omega | assumption) ?_
          refine i_iload_n rfl rfl ?_
          refine i_if_lt_f rfl (by first | omega | assumption) ?_
          refine i_iload_n rfl rfl ?_
          refine i_bipush (n := 8) rfl (by unfold iR; omega) (by decide) ?_
          refine i_icmp_lt_f rfl (by first | omega | assumption) ?_
          refine i_iconst (n := -1) rfl (by unfold iR; omega) ?_
          -- at 24
          exact i_ireturn rfl rfl
      · by_cases c : name < 0
        · refine i_aload_n rfl rfl ?_
          refine i_getf rfl rfl rfl rfl (by decide) ?_
          refine i_if_eq_t rfl (by first | omega | assumption) ?_
          refine i_iload_n rfl rfl ?_
          refine i_if_lt_t rfl (by first | omega | assumption) ?_
          refine i_iconst (n := -1) rfl (by unfold iR; omega) ?_
          -- at 21
          exact i_ireturn rfl rfl
        · refine i_aload_n rfl rfl ?_
          refine i_getf rfl rfl rfl rfl (by decide) ?_
          refine i_if_eq_t rfl (by first | omega | assumption) ?_
          refine i_iload_n rfl rfl ?_
          refine i_if_lt_f rfl (by first | omega | assumption) ?_
          refine i_iload_n rfl rfl ?_
          refine i_bipush (n := 7) rfl (by unfold iR; omega) (by decide) ?_
          refine i_icmp_le_f rfl (by first | omega | assumption) ?_
          refine i_iconst (n := -1) rfl (by unfold iR; omega) ?_
          -- at 21
          exact i_ireturn rfl rfl
  · refine ⟨-9, b, M, M, ?_, ?_, Inv_w h (by omega)⟩
    · refine i_aload_n rfl rfl ?_
      refine i_getr rfl rfl rfl rfl (by decide) rfl ?_
      -- at 4
      refine i_call (T := (34, zp_34)) rfl rfl (c_isStopped (Or.inr a1)) rfl rfl rfl rfl rfl rfl rfl ?_
      try dsimp only
      show irun none zp_2 7 _ [iI (M 1 4)] _ _ 0 0 _
      refine i_if_eq_f rfl (by first | omega | assumption) ?_
      refine i_bipush (n := -9) rfl (by unfold iR; omega) (by decide) ?_
      -- at 12
      exact i_ireturn rfl rfl
    · refine i_aload_n rfl rfl ?_
      refine i_getf rfl rfl rfl rfl (by decide) ?_
      refine i_if_eq_f rfl (by first | omega | assumption) ?_
      refine i_bipush (n := -9) rfl (by unfold iR; omega) (by decide) ?_
      -- at 9
      exact i_ireturn rfl rfl
