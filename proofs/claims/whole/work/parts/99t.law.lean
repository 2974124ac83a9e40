theorem Inv_0 {M : iM} (x0 : M 0 = fun _ => (0 : Int)) (x1 : M 1 = va_up (fun _ => (0 : Int)) 3 (-1)) (x2 : M 2 = im0 60) (x3 : ∀ x : Nat, x < 256 → M 3 x = hN 8 (x : Int)) (x41 : M 41 = im0 60) (z : ∀ c, 4 ≤ c → c < 63 → c ≠ 41 → M c = fun _ => (0 : Int)) : Inv 0 false M := by
  have e1 : ∀ k, k ≠ 3 → M 1 k = 0 := fun k hk => by rw [x1, up_n hk]
  have e13 : M 1 3 = -1 := by rw [x1, up_s]
  have e0 : ∀ k, M 0 k = 0 := fun k => by rw [x0]
  have e : ∀ c k, 4 ≤ c → c < 63 → c ≠ 41 → M c k = 0 := fun c k h1 h2 h3 => by rw [z c h1 h2 h3]
  refine ⟨⟨by rw [x41]; exact im0_b 60, fun j => by rw [x2, x41], x3⟩, ?_, ?_, ?_, ?_, ?_, ?_, ?_⟩
  · refine ⟨Or.inl (e1 4 (by decide)), by rw [e1 4 (by decide), e 40 1 (by decide) (by decide) (by decide)], Or.inl (e 40 2 (by decide) (by decide) (by decide)), ?_, ?_, ?_, ?_, ?_⟩
    · rw [e 40 3 (by decide) (by decide) (by decide)]; omega
    · rw [e 40 3 (by decide) (by decide) (by decide)]; omega
    · rw [e13, e 40 2 (by decide) (by decide) (by decide), if_neg (by decide)]
    · rw [e1 5 (by decide)]; omega
    · rw [e1 5 (by decide)]; omega
  · show I3 36 M
    have p1 := e 36 1 (by decide) (by decide) (by decide)
    unfold I3
    rw [p1, e 42 0 (by decide) (by decide) (by decide), e 40 8 (by decide) (by decide) (by decide), e 40 6 (by decide) (by decide) (by decide), e 40 7 (by decide) (by decide) (by decide), e 36 2 (by decide) (by decide) (by decide), e 36 3 (by decide) (by decide) (by decide), e 36 4 (by decide) (by decide) (by decide)]
    refine ⟨⟨by omega, by omega⟩, rfl, fun k hk => by omega, fun k hk => by omega, fun k hk => by omega, ⟨rfl, by omega, by omega⟩, ⟨rfl, by omega, by omega⟩, ⟨rfl, by omega, by omega⟩, fun k hk => by omega⟩
  · unfold I4
    rw [e 40 9 (by decide) (by decide) (by decide), e0 8]
    refine ⟨⟨rfl, by omega, by omega⟩, fun k hk => ?_⟩
    rw [e 44 k (by decide) (by decide) (by decide), e 32 k (by decide) (by decide) (by decide)]
    exact ⟨rfl, by omega, by omega⟩
  · unfold I5
    rw [e 40 12 (by decide) (by decide) (by decide), e 5 5 (by decide) (by decide) (by decide)]
    exact ⟨⟨rfl, by omega, by omega⟩, fun k hk => by omega⟩
  · unfold I6
    rw [e 40 13 (by decide) (by decide) (by decide), e 40 14 (by decide) (by decide) (by decide), e 5 6 (by decide) (by decide) (by decide), e 5 7 (by decide) (by decide) (by decide)]
    exact ⟨⟨rfl, by omega, by omega⟩, ⟨rfl, rfl⟩, fun k hk => by omega, fun k hk => by omega⟩
  · show I7 36 M
    unfold I7
    rw [e 40 15 (by decide) (by decide) (by decide), e 5 8 (by decide) (by decide) (by decide)]
    refine ⟨⟨rfl, (sm_0 (fun k hk => e 10 k (by decide) (by decide) (by decide))).symm⟩, fun k hk => ?_⟩
    rw [e 49 k (by decide) (by decide) (by decide), e 10 k (by decide) (by decide) (by decide)]
    exact ⟨rfl, Or.inl rfl, fun _ => rfl⟩
  · unfold I8
    rw [e 40 41 (by decide) (by decide) (by decide), e0 7]
    exact ⟨⟨rfl, by omega, by omega⟩, fun k hk => by omega⟩
set_option maxRecDepth 100000 in
theorem l_write {L i : Nat} {xs : Nat → Int32} {b : Bool} {M : iM} {w : Int} (hL : L ≤ 2048) (hi : i + 4 ≤ L) (h : Inv w b M) (hw0 : 0 ≤ w) (hw : w < 700000000) : ∃ b' M2, Inv (w + 300) b' M2 ∧ ∀ q, irun (some (L, xs)) zp_165 510 [some (iP 1000000), some (iP 0), some (iP 40), some (iI (i : Int))] [] (SH b') M2 63 6973 q → irun (some (L, xs)) zp_165 112 [some (iP 1000000), some (iP 0), some (iP 40), some (iI (i : Int))] [] (SH b) M 63 6973 q := by
  obtain ⟨r, b', M1, M2, h1, h2, hI⟩ := o_write (n := (xs ((i : Int) + 1).toNat).toInt) (v := ((Int32.ofInt (xs ((i : Int) + 2).toNat).toInt).toInt64 <<< ((Int32.ofInt 32).toInt64 &&& 63)) ||| ((Int32.ofInt (xs ((i : Int) + 3).toNat).toInt).toInt64 &&& Int64.ofNat 4294967295)) h
  refine ⟨b', M2, hI, fun q hq => ?_⟩
  refine i_aload_n rfl rfl ?_
  refine i_aload_n rfl rfl ?_
  refine i_iload_n rfl rfl ?_
  refine i_iconst (n := 1) rfl (by unfold iR; omega) ?_
  refine i_iadd rfl (by unfold iR; omega) ?_
  refine i_sald rfl rfl (by omega) (by omega) ?_
  refine i_aload_n rfl rfl ?_
  refine i_iload_n rfl rfl ?_
  refine i_iconst (n := 2) rfl (by unfold iR; omega) ?_
  refine i_iadd rfl (by unfold iR; omega) ?_
  refine i_sald rfl rfl (by omega) (by omega) ?_
  refine i_i2l rfl ?_
  refine i_bipush (n := 32) rfl (by unfold iR; omega) (by decide) ?_
  refine i_lshl rfl ?_
  refine i_aload_n rfl rfl ?_
  refine i_iload_n rfl rfl ?_
  refine i_iconst (n := 3) rfl (by unfold iR; omega) ?_
  refine i_iadd rfl (by unfold iR; omega) ?_
  refine i_sald rfl rfl (by omega) (by omega) ?_
  refine i_i2l rfl ?_
  refine i_ldc2 rfl ?_
  refine i_land rfl ?_
  refine i_lor rfl ?_
  refine i_call (T := (1, zp_1)) rfl rfl h1 rfl rfl rfl rfl rfl rfl rfl ?_
  show irun (some (L, xs)) zp_165 141 [some (iP 1000000), some (iP 0), some (iP 40), some (iI (i : Int))] [iI r] (SH b') M1 63 6973 q
  refine i_aload_n rfl rfl ?_
  refine i_aload_n rfl rfl ?_
  refine i_iload_n rfl rfl ?_
  refine i_iconst (n := 1) rfl (by unfold iR; omega) ?_
  refine i_iadd rfl (by unfold iR; omega) ?_
  refine i_sald rfl rfl (by omega) (by omega) ?_
  refine i_aload_n rfl rfl ?_
  refine i_iload_n rfl rfl ?_
  refine i_iconst (n := 2) rfl (by unfold iR; omega) ?_
  refine i_iadd rfl (by unfold iR; omega) ?_
  refine i_sald rfl rfl (by omega) (by omega) ?_
  refine i_i2l rfl ?_
  refine i_bipush (n := 32) rfl (by unfold iR; omega) (by decide) ?_
  refine i_lshl rfl ?_
  refine i_aload_n rfl rfl ?_
  refine i_iload_n rfl rfl ?_
  refine i_iconst (n := 3) rfl (by unfold iR; omega) ?_
  refine i_iadd rfl (by unfold iR; omega) ?_
  refine i_sald rfl rfl (by omega) (by omega) ?_
  refine i_i2l rfl ?_
  refine i_ldc2 rfl ?_
  refine i_land rfl ?_
  refine i_lor rfl ?_
  refine i_call (T := (144, zp_144)) rfl rfl h2 rfl rfl rfl rfl rfl rfl rfl ?_
  show irun (some (L, xs)) zp_165 170 [some (iP 1000000), some (iP 0), some (iP 40), some (iI (i : Int))] [iI r, iI r] (SH b') M2 63 6973 q
  refine i_icmp_eq_t rfl rfl ?_
  exact hq
set_option maxRecDepth 100000 in
theorem l_add {L i : Nat} {xs : Nat → Int32} {b : Bool} {M : iM} {w : Int} (hL : L ≤ 2048) (hi : i + 4 ≤ L) (h : Inv w b M) (hw0 : 0 ≤ w) (hw : w < 700000000) : ∃ b' M2, Inv (w + 300) b' M2 ∧ ∀ q, irun (some (L, xs)) zp_165 510 [some (iP 1000000), some (iP 0), some (iP 40), some (iI (i : Int))] [] (SH b') M2 63 6973 q → irun (some (L, xs)) zp_165 175 [some (iP 1000000), some (iP 0), some (iP 40), some (iI (i : Int))] [] (SH b) M 63 6973 q := by
  obtain ⟨r, b', M1, M2, h1, h2, hI⟩ := o_add (name := (xs ((i : Int) + 1).toNat).toInt) h
  refine ⟨b', M2, hI, fun q hq => ?_⟩
  refine i_aload_n rfl rfl ?_
  refine i_aload_n rfl rfl ?_
  refine i_iload_n rfl rfl ?_
  refine i_iconst (n := 1) rfl (by unfold iR; omega) ?_
  refine i_iadd rfl (by unfold iR; omega) ?_
  refine i_sald rfl rfl (by omega) (by omega) ?_
  refine i_call (T := (2, zp_2)) rfl rfl h1 rfl rfl rfl rfl rfl rfl rfl ?_
  show irun (some (L, xs)) zp_165 184 [some (iP 1000000), some (iP 0), some (iP 40), some (iI (i : Int))] [iI r] (SH b') M1 63 6973 q
  refine i_aload_n rfl rfl ?_
  refine i_aload_n rfl rfl ?_
  refine i_iload_n rfl rfl ?_
  refine i_iconst (n := 1) rfl (by unfold iR; omega) ?_
  refine i_iadd rfl (by unfold iR; omega) ?_
  refine i_sald rfl rfl (by omega) (by omega) ?_
  refine i_call (T := (145, zp_145)) rfl rfl h2 rfl rfl rfl rfl rfl rfl rfl ?_
  show irun (some (L, xs)) zp_165 193 [some (iP 1000000), some (iP 0), some (iP 40), some (iI (i : Int))] [iI r, iI r] (SH b') M2 63 6973 q
  refine i_icmp_eq_t rfl rfl ?_
  exact hq
set_option maxRecDepth 100000 in
theorem l_remove {L i : Nat} {xs : Nat → Int32} {b : Bool} {M : iM} {w : Int} (hL : L ≤ 2048) (hi : i + 4 ≤ L) (h : Inv w b M) (hw0 : 0 ≤ w) (hw : w < 700000000) : ∃ b' M2, Inv (w + 300) b' M2 ∧ ∀ q, irun (some (L, xs)) zp_165 510 [some (iP 1000000), some (iP 0), some (iP 40), some (iI (i : Int))] [] (SH b') M2 63 6973 q → irun (some (L, xs)) zp_165 198 [some (iP 1000000), some (iP 0), some (iP 40), some (iI (i : Int))] [] (SH b) M 63 6973 q := by
  obtain ⟨r, b', M1, M2, h1, h2, hI⟩ := o_remove (name := (xs ((i : Int) + 1).toNat).toInt) (ver := (xs ((i : Int) + 2).toNat).toInt) h
  refine ⟨b', M2, hI, fun q hq => ?_⟩
  refine i_aload_n rfl rfl ?_
  refine i_aload_n rfl rfl ?_
  refine i_iload_n rfl rfl ?_
  refine i_iconst (n := 1) rfl (by unfold iR; omega) ?_
  refine i_iadd rfl (by unfold iR; omega) ?_
  refine i_sald rfl rfl (by omega) (by omega) ?_
  refine i_aload_n rfl rfl ?_
  refine i_iload_n rfl rfl ?_
  refine i_iconst (n := 2) rfl (by unfold iR; omega) ?_
  refine i_iadd rfl (by unfold iR; omega) ?_
  refine i_sald rfl rfl (by omega) (by omega) ?_
  refine i_call (T := (3, zp_3)) rfl rfl h1 rfl rfl rfl rfl rfl rfl rfl ?_
  show irun (some (L, xs)) zp_165 212 [some (iP 1000000), some (iP 0), some (iP 40), some (iI (i : Int))] [iI r] (SH b') M1 63 6973 q
  refine i_aload_n rfl rfl ?_
  refine i_aload_n rfl rfl ?_
  refine i_iload_n rfl rfl ?_
  refine i_iconst (n := 1) rfl (by unfold iR; omega) ?_
  refine i_iadd rfl (by unfold iR; omega) ?_
  refine i_sald rfl rfl (by omega) (by omega) ?_
  refine i_aload_n rfl rfl ?_
  refine i_iload_n rfl rfl ?_
  refine i_iconst (n := 2) rfl (by unfold iR; omega) ?_
  refine i_iadd rfl (by unfold iR; omega) ?_
  refine i_sald rfl rfl (by omega) (by omega) ?_
  refine i_call (T := (147, zp_147)) rfl rfl h2 rfl rfl rfl rfl rfl rfl rfl ?_
  show irun (some (L, xs)) zp_165 226 [some (iP 1000000), some (iP 0), some (iP 40), some (iI (i : Int))] [iI r, iI r] (SH b') M2 63 6973 q
  refine i_icmp_eq_t rfl rfl ?_
  exact hq
set_option maxRecDepth 100000 in
theorem l_drop {L i : Nat} {xs : Nat → Int32} {b : Bool} {M : iM} {w : Int} (hL : L ≤ 2048) (hi : i + 4 ≤ L) (h : Inv w b M) (hw0 : 0 ≤ w) (hw : w < 700000000) : ∃ b' M2, Inv (w + 300) b' M2 ∧ ∀ q, irun (some (L, xs)) zp_165 510 [some (iP 1000000), some (iP 0), some (iP 40), some (iI (i : Int))] [] (SH b') M2 63 6973 q → irun (some (L, xs)) zp_165 231 [some (iP 1000000), some (iP 0), some (iP 40), some (iI (i : Int))] [] (SH b) M 63 6973 q := by
  obtain ⟨r, b', M1, M2, h1, h2, hI⟩ := o_drop  h
  refine ⟨b', M2, hI, fun q hq => ?_⟩
  refine i_aload_n rfl rfl ?_
  refine i_call (T := (4, zp_4)) rfl rfl h1 rfl rfl rfl rfl rfl rfl rfl ?_
  show irun (some (L, xs)) zp_165 235 [some (iP 1000000), some (iP 0), some (iP 40), some (iI (i : Int))] [iI r] (SH b') M1 63 6973 q
  refine i_aload_n rfl rfl ?_
  refine i_call (T := (148, zp_148)) rfl rfl h2 rfl rfl rfl rfl rfl rfl rfl ?_
  show irun (some (L, xs)) zp_165 239 [some (iP 1000000), some (iP 0), some (iP 40), some (iI (i : Int))] [iI r, iI r] (SH b') M2 63 6973 q
  refine i_icmp_eq_t rfl rfl ?_
  exact hq
set_option maxRecDepth 100000 in
theorem l_commit {L i : Nat} {xs : Nat → Int32} {b : Bool} {M : iM} {w : Int} (hL : L ≤ 2048) (hi : i + 4 ≤ L) (h : Inv w b M) (hw0 : 0 ≤ w) (hw : w < 700000000) : ∃ b' M2, Inv (w + 300) b' M2 ∧ ∀ q, irun (some (L, xs)) zp_165 510 [some (iP 1000000), some (iP 0), some (iP 40), some (iI (i : Int))] [] (SH b') M2 63 6973 q → irun (some (L, xs)) zp_165 244 [some (iP 1000000), some (iP 0), some (iP 40), some (iI (i : Int))] [] (SH b) M 63 6973 q := by
  obtain ⟨r, b', M1, M2, h1, h2, hI⟩ := o_commit  h (by omega) (by omega)
  refine ⟨b', M2, hI, fun q hq => ?_⟩
  refine i_aload_n rfl rfl ?_
  refine i_call (T := (5, zp_5)) rfl rfl h1 rfl rfl rfl rfl rfl rfl rfl ?_
  show irun (some (L, xs)) zp_165 248 [some (iP 1000000), some (iP 0), some (iP 40), some (iI (i : Int))] [iI r] (SH b') M1 63 6973 q
  refine i_aload_n rfl rfl ?_
  refine i_call (T := (152, zp_152)) rfl rfl h2 rfl rfl rfl rfl rfl rfl rfl ?_
  show irun (some (L, xs)) zp_165 252 [some (iP 1000000), some (iP 0), some (iP 40), some (iI (i : Int))] [iI r, iI r] (SH b') M2 63 6973 q
  refine i_icmp_eq_t rfl rfl ?_
  exact hq
set_option maxRecDepth 100000 in
theorem l_extract {L i : Nat} {xs : Nat → Int32} {b : Bool} {M : iM} {w : Int} (hL : L ≤ 2048) (hi : i + 4 ≤ L) (h : Inv w b M) (hw0 : 0 ≤ w) (hw : w < 700000000) : ∃ b' M2, Inv (w + 300) b' M2 ∧ ∀ q, irun (some (L, xs)) zp_165 510 [some (iP 1000000), some (iP 0), some (iP 40), some (iI (i : Int))] [] (SH b') M2 63 6973 q → irun (some (L, xs)) zp_165 257 [some (iP 1000000), some (iP 0), some (iP 40), some (iI (i : Int))] [] (SH b) M 63 6973 q := by
  obtain ⟨r, b', M1, M2, h1, h2, hI⟩ := o_extract (name := (xs ((i : Int) + 1).toNat).toInt) (ver := (xs ((i : Int) + 2).toNat).toInt) h
  refine ⟨b', M2, hI, fun q hq => ?_⟩
  refine i_aload_n rfl rfl ?_
  refine i_aload_n rfl rfl ?_
  refine i_iload_n rfl rfl ?_
  refine i_iconst (n := 1) rfl (by unfold iR; omega) ?_
  refine i_iadd rfl (by unfold iR; omega) ?_
  refine i_sald rfl rfl (by omega) (by omega) ?_
  refine i_aload_n rfl rfl ?_
  refine i_iload_n rfl rfl ?_
  refine i_iconst (n := 2) rfl (by unfold iR; omega) ?_
  refine i_iadd rfl (by unfold iR; omega) ?_
  refine i_sald rfl rfl (by omega) (by omega) ?_
  refine i_call (T := (6, zp_6)) rfl rfl h1 rfl rfl rfl rfl rfl rfl rfl ?_
  show irun (some (L, xs)) zp_165 271 [some (iP 1000000), some (iP 0), some (iP 40), some (iI (i : Int))] [iI r] (SH b') M1 63 6973 q
  refine i_aload_n rfl rfl ?_
  refine i_aload_n rfl rfl ?_
  refine i_iload_n rfl rfl ?_
  refine i_iconst (n := 1) rfl (by unfold iR; omega) ?_
  refine i_iadd rfl (by unfold iR; omega) ?_
  refine i_sald rfl rfl (by omega) (by omega) ?_
  refine i_aload_n rfl rfl ?_
  refine i_iload_n rfl rfl ?_
  refine i_iconst (n := 2) rfl (by unfold iR; omega) ?_
  refine i_iadd rfl (by unfold iR; omega) ?_
  refine i_sald rfl rfl (by omega) (by omega) ?_
  refine i_call (T := (154, zp_154)) rfl rfl h2 rfl rfl rfl rfl rfl rfl rfl ?_
  show irun (some (L, xs)) zp_165 285 [some (iP 1000000), some (iP 0), some (iP 40), some (iI (i : Int))] [iI r, iI r] (SH b') M2 63 6973 q
  refine i_icmp_eq_t rfl rfl ?_
  exact hq
set_option maxRecDepth 100000 in
theorem l_extracted {L i : Nat} {xs : Nat → Int32} {b : Bool} {M : iM} {w : Int} (hL : L ≤ 2048) (hi : i + 4 ≤ L) (h : Inv w b M) (hw0 : 0 ≤ w) (hw : w < 700000000) : ∃ b' M2, Inv (w + 300) b' M2 ∧ ∀ q, irun (some (L, xs)) zp_165 510 [some (iP 1000000), some (iP 0), some (iP 40), some (iI (i : Int))] [] (SH b') M2 63 6973 q → irun (some (L, xs)) zp_165 290 [some (iP 1000000), some (iP 0), some (iP 40), some (iI (i : Int))] [] (SH b) M 63 6973 q := by
  obtain ⟨r, b', M1, M2, h1, h2, hI⟩ := o_extracted (i := (xs ((i : Int) + 1).toNat).toInt) h
  refine ⟨b', M2, hI, fun q hq => ?_⟩
  refine i_aload_n rfl rfl ?_
  refine i_aload_n rfl rfl ?_
  refine i_iload_n rfl rfl ?_
  refine i_iconst (n := 1) rfl (by unfold iR; omega) ?_
  refine i_iadd rfl (by unfold iR; omega) ?_
  refine i_sald rfl rfl (by omega) (by omega) ?_
  refine i_call (T := (7, zp_7)) rfl rfl h1 rfl rfl rfl rfl rfl rfl rfl ?_
  show irun (some (L, xs)) zp_165 299 [some (iP 1000000), some (iP 0), some (iP 40), some (iI (i : Int))] [iI r] (SH b') M1 63 6973 q
  refine i_aload_n rfl rfl ?_
  refine i_aload_n rfl rfl ?_
  refine i_iload_n rfl rfl ?_
  refine i_iconst (n := 1) rfl (by unfold iR; omega) ?_
  refine i_iadd rfl (by unfold iR; omega) ?_
  refine i_sald rfl rfl (by omega) (by omega) ?_
  refine i_call (T := (155, zp_155)) rfl rfl h2 rfl rfl rfl rfl rfl rfl rfl ?_
  show irun (some (L, xs)) zp_165 308 [some (iP 1000000), some (iP 0), some (iP 40), some (iI (i : Int))] [iI r, iI r] (SH b') M2 63 6973 q
  refine i_icmp_eq_t rfl rfl ?_
  exact hq
set_option maxRecDepth 100000 in
theorem l_files {L i : Nat} {xs : Nat → Int32} {b : Bool} {M : iM} {w : Int} (hL : L ≤ 2048) (hi : i + 4 ≤ L) (h : Inv w b M) (hw0 : 0 ≤ w) (hw : w < 700000000) : ∃ b' M2, Inv (w + 300) b' M2 ∧ ∀ q, irun (some (L, xs)) zp_165 510 [some (iP 1000000), some (iP 0), some (iP 40), some (iI (i : Int))] [] (SH b') M2 63 6973 q → irun (some (L, xs)) zp_165 313 [some (iP 1000000), some (iP 0), some (iP 40), some (iI (i : Int))] [] (SH b) M 63 6973 q := by
  obtain ⟨r, b', M1, M2, h1, h2, hI⟩ := o_files  h
  refine ⟨b', M2, hI, fun q hq => ?_⟩
  refine i_aload_n rfl rfl ?_
  refine i_call (T := (8, zp_8)) rfl rfl h1 rfl rfl rfl rfl rfl rfl rfl ?_
  show irun (some (L, xs)) zp_165 317 [some (iP 1000000), some (iP 0), some (iP 40), some (iI (i : Int))] [iI r] (SH b') M1 63 6973 q
  refine i_aload_n rfl rfl ?_
  refine i_call (T := (156, zp_156)) rfl rfl h2 rfl rfl rfl rfl rfl rfl rfl ?_
  show irun (some (L, xs)) zp_165 321 [some (iP 1000000), some (iP 0), some (iP 40), some (iI (i : Int))] [iI r, iI r] (SH b') M2 63 6973 q
  refine i_icmp_eq_t rfl rfl ?_
  exact hq
set_option maxRecDepth 100000 in
theorem l_file {L i : Nat} {xs : Nat → Int32} {b : Bool} {M : iM} {w : Int} (hL : L ≤ 2048) (hi : i + 4 ≤ L) (h : Inv w b M) (hw0 : 0 ≤ w) (hw : w < 700000000) : ∃ b' M2, Inv (w + 300) b' M2 ∧ ∀ q, irun (some (L, xs)) zp_165 510 [some (iP 1000000), some (iP 0), some (iP 40), some (iI (i : Int))] [] (SH b') M2 63 6973 q → irun (some (L, xs)) zp_165 326 [some (iP 1000000), some (iP 0), some (iP 40), some (iI (i : Int))] [] (SH b) M 63 6973 q := by
  obtain ⟨r, b', M1, M2, h1, h2, hI⟩ := o_file (k := (xs ((i : Int) + 1).toNat).toInt) (u := (xs ((i : Int) + 2).toNat).toInt) h
  refine ⟨b', M2, hI, fun q hq => ?_⟩
  refine i_aload_n rfl rfl ?_
  refine i_aload_n rfl rfl ?_
  refine i_iload_n rfl rfl ?_
  refine i_iconst (n := 1) rfl (by unfold iR; omega) ?_
  refine i_iadd rfl (by unfold iR; omega) ?_
  refine i_sald rfl rfl (by omega) (by omega) ?_
  refine i_aload_n rfl rfl ?_
  refine i_iload_n rfl rfl ?_
  refine i_iconst (n := 2) rfl (by unfold iR; omega) ?_
  refine i_iadd rfl (by unfold iR; omega) ?_
  refine i_sald rfl rfl (by omega) (by omega) ?_
  refine i_call (T := (9, zp_9)) rfl rfl h1 rfl rfl rfl rfl rfl rfl rfl ?_
  show irun (some (L, xs)) zp_165 340 [some (iP 1000000), some (iP 0), some (iP 40), some (iI (i : Int))] [iI r] (SH b') M1 63 6973 q
  refine i_aload_n rfl rfl ?_
  refine i_aload_n rfl rfl ?_
  refine i_iload_n rfl rfl ?_
  refine i_iconst (n := 1) rfl (by unfold iR; omega) ?_
  refine i_iadd rfl (by unfold iR; omega) ?_
  refine i_sald rfl rfl (by omega) (by omega) ?_
  refine i_aload_n rfl rfl ?_
  refine i_iload_n rfl rfl ?_
  refine i_iconst (n := 2) rfl (by unfold iR; omega) ?_
  refine i_iadd rfl (by unfold iR; omega) ?_
  refine i_sald rfl rfl (by omega) (by omega) ?_
  refine i_call (T := (157, zp_157)) rfl rfl h2 rfl rfl rfl rfl rfl rfl rfl ?_
  show irun (some (L, xs)) zp_165 354 [some (iP 1000000), some (iP 0), some (iP 40), some (iI (i : Int))] [iI r, iI r] (SH b') M2 63 6973 q
  refine i_icmp_eq_t rfl rfl ?_
  exact hq
set_option maxRecDepth 100000 in
theorem l_repair {L i : Nat} {xs : Nat → Int32} {b : Bool} {M : iM} {w : Int} (hL : L ≤ 2048) (hi : i + 4 ≤ L) (h : Inv w b M) (hw0 : 0 ≤ w) (hw : w < 700000000) : ∃ b' M2, Inv (w + 300) b' M2 ∧ ∀ q, irun (some (L, xs)) zp_165 510 [some (iP 1000000), some (iP 0), some (iP 40), some (iI (i : Int))] [] (SH b') M2 63 6973 q → irun (some (L, xs)) zp_165 359 [some (iP 1000000), some (iP 0), some (iP 40), some (iI (i : Int))] [] (SH b) M 63 6973 q := by
  obtain ⟨r, b', M1, M2, h1, h2, hI⟩ := o_repair  h (by omega)
  refine ⟨b', M2, hI, fun q hq => ?_⟩
  refine i_aload_n rfl rfl ?_
  refine i_call (T := (10, zp_10)) rfl rfl h1 rfl rfl rfl rfl rfl rfl rfl ?_
  show irun (some (L, xs)) zp_165 363 [some (iP 1000000), some (iP 0), some (iP 40), some (iI (i : Int))] [iI r] (SH b') M1 63 6973 q
  refine i_aload_n rfl rfl ?_
  refine i_call (T := (159, zp_159)) rfl rfl h2 rfl rfl rfl rfl rfl rfl rfl ?_
  show irun (some (L, xs)) zp_165 367 [some (iP 1000000), some (iP 0), some (iP 40), some (iI (i : Int))] [iI r, iI r] (SH b') M2 63 6973 q
  refine i_icmp_eq_t rfl rfl ?_
  exact hq
set_option maxRecDepth 100000 in
theorem l_limit {L i : Nat} {xs : Nat → Int32} {b : Bool} {M : iM} {w : Int} (hL : L ≤ 2048) (hi : i + 4 ≤ L) (h : Inv w b M) (hw0 : 0 ≤ w) (hw : w < 700000000) : ∃ b' M2, Inv (w + 300) b' M2 ∧ ∀ q, irun (some (L, xs)) zp_165 510 [some (iP 1000000), some (iP 0), some (iP 40), some (iI (i : Int))] [] (SH b') M2 63 6973 q → irun (some (L, xs)) zp_165 372 [some (iP 1000000), some (iP 0), some (iP 40), some (iI (i : Int))] [] (SH b) M 63 6973 q := by
  obtain ⟨r, b', M1, M2, h1, h2, hI⟩ := o_limit (n := (xs ((i : Int) + 1).toNat).toInt) h
  refine ⟨b', M2, hI, fun q hq => ?_⟩
  refine i_aload_n rfl rfl ?_
  refine i_aload_n rfl rfl ?_
  refine i_iload_n rfl rfl ?_
  refine i_iconst (n := 1) rfl (by unfold iR; omega) ?_
  refine i_iadd rfl (by unfold iR; omega) ?_
  refine i_sald rfl rfl (by omega) (by omega) ?_
  refine i_call (T := (11, zp_11)) rfl rfl h1 rfl rfl rfl rfl rfl rfl rfl ?_
  show irun (some (L, xs)) zp_165 381 [some (iP 1000000), some (iP 0), some (iP 40), some (iI (i : Int))] [iI r] (SH b') M1 63 6973 q
  refine i_aload_n rfl rfl ?_
  refine i_aload_n rfl rfl ?_
  refine i_iload_n rfl rfl ?_
  refine i_iconst (n := 1) rfl (by unfold iR; omega) ?_
  refine i_iadd rfl (by unfold iR; omega) ?_
  refine i_sald rfl rfl (by omega) (by omega) ?_
  refine i_call (T := (160, zp_160)) rfl rfl h2 rfl rfl rfl rfl rfl rfl rfl ?_
  show irun (some (L, xs)) zp_165 390 [some (iP 1000000), some (iP 0), some (iP 40), some (iI (i : Int))] [iI r, iI r] (SH b') M2 63 6973 q
  refine i_icmp_eq_t rfl rfl ?_
  exact hq
set_option maxRecDepth 100000 in
theorem l_open {L i : Nat} {xs : Nat → Int32} {b : Bool} {M : iM} {w : Int} (hL : L ≤ 2048) (hi : i + 4 ≤ L) (h : Inv w b M) (hw0 : 0 ≤ w) (hw : w < 700000000) : ∃ b' M2, Inv (w + 300) b' M2 ∧ ∀ q, irun (some (L, xs)) zp_165 510 [some (iP 1000000), some (iP 0), some (iP 40), some (iI (i : Int))] [] (SH b') M2 63 6973 q → irun (some (L, xs)) zp_165 395 [some (iP 1000000), some (iP 0), some (iP 40), some (iI (i : Int))] [] (SH b) M 63 6973 q := by
  obtain ⟨r, b', M1, M2, h1, h2, hI⟩ := o_open  h
  refine ⟨b', M2, hI, fun q hq => ?_⟩
  refine i_aload_n rfl rfl ?_
  refine i_call (T := (12, zp_12)) rfl rfl h1 rfl rfl rfl rfl rfl rfl rfl ?_
  show irun (some (L, xs)) zp_165 399 [some (iP 1000000), some (iP 0), some (iP 40), some (iI (i : Int))] [iI r] (SH b') M1 63 6973 q
  refine i_aload_n rfl rfl ?_
  refine i_call (T := (140, zp_140)) rfl rfl h2 rfl rfl rfl rfl rfl rfl rfl ?_
  show irun (some (L, xs)) zp_165 403 [some (iP 1000000), some (iP 0), some (iP 40), some (iI (i : Int))] [iI r, iI r] (SH b') M2 63 6973 q
  refine i_icmp_eq_t rfl rfl ?_
  exact hq
set_option maxRecDepth 100000 in
theorem l_down {L i : Nat} {xs : Nat → Int32} {b : Bool} {M : iM} {w : Int} (hL : L ≤ 2048) (hi : i + 4 ≤ L) (h : Inv w b M) (hw0 : 0 ≤ w) (hw : w < 700000000) : ∃ b' M2, Inv (w + 300) b' M2 ∧ ∀ q, irun (some (L, xs)) zp_165 510 [some (iP 1000000), some (iP 0), some (iP 40), some (iI (i : Int))] [] (SH b') M2 63 6973 q → irun (some (L, xs)) zp_165 408 [some (iP 1000000), some (iP 0), some (iP 40), some (iI (i : Int))] [] (SH b) M 63 6973 q := by
  obtain ⟨r, b', M1, M2, h1, h2, hI⟩ := o_down  h
  refine ⟨b', M2, hI, fun q hq => ?_⟩
  refine i_aload_n rfl rfl ?_
  refine i_call (T := (13, zp_13)) rfl rfl h1 rfl rfl rfl rfl rfl rfl rfl ?_
  show irun (some (L, xs)) zp_165 412 [some (iP 1000000), some (iP 0), some (iP 40), some (iI (i : Int))] [iI r] (SH b') M1 63 6973 q
  refine i_aload_n rfl rfl ?_
  refine i_call (T := (161, zp_161)) rfl rfl h2 rfl rfl rfl rfl rfl rfl rfl ?_
  show irun (some (L, xs)) zp_165 416 [some (iP 1000000), some (iP 0), some (iP 40), some (iI (i : Int))] [iI r, iI r] (SH b') M2 63 6973 q
  refine i_icmp_eq_t rfl rfl ?_
  exact hq
set_option maxRecDepth 100000 in
theorem l_damage {L i : Nat} {xs : Nat → Int32} {b : Bool} {M : iM} {w : Int} (hL : L ≤ 2048) (hi : i + 4 ≤ L) (h : Inv w b M) (hw0 : 0 ≤ w) (hw : w < 700000000) : ∃ b' M2, Inv (w + 300) b' M2 ∧ ∀ q, irun (some (L, xs)) zp_165 510 [some (iP 1000000), some (iP 0), some (iP 40), some (iI (i : Int))] [] (SH b') M2 63 6973 q → irun (some (L, xs)) zp_165 421 [some (iP 1000000), some (iP 0), some (iP 40), some (iI (i : Int))] [] (SH b) M 63 6973 q := by
  obtain ⟨r, b', M1, M2, h1, h2, hI⟩ := o_damage (s := (xs ((i : Int) + 1).toNat).toInt) (p := (xs ((i : Int) + 2).toNat).toInt) (t := (xs ((i : Int) + 3).toNat).toInt) h
  refine ⟨b', M2, hI, fun q hq => ?_⟩
  refine i_aload_n rfl rfl ?_
  refine i_aload_n rfl rfl ?_
  refine i_iload_n rfl rfl ?_
  refine i_iconst (n := 1) rfl (by unfold iR; omega) ?_
  refine i_iadd rfl (by unfold iR; omega) ?_
  refine i_sald rfl rfl (by omega) (by omega) ?_
  refine i_aload_n rfl rfl ?_
  refine i_iload_n rfl rfl ?_
  refine i_iconst (n := 2) rfl (by unfold iR; omega) ?_
  refine i_iadd rfl (by unfold iR; omega) ?_
  refine i_sald rfl rfl (by omega) (by omega) ?_
  refine i_aload_n rfl rfl ?_
  refine i_iload_n rfl rfl ?_
  refine i_iconst (n := 3) rfl (by unfold iR; omega) ?_
  refine i_iadd rfl (by unfold iR; omega) ?_
  refine i_sald rfl rfl (by omega) (by omega) ?_
  refine i_call (T := (14, zp_14)) rfl rfl h1 rfl rfl rfl rfl rfl rfl rfl ?_
  show irun (some (L, xs)) zp_165 440 [some (iP 1000000), some (iP 0), some (iP 40), some (iI (i : Int))] [iI r] (SH b') M1 63 6973 q
  refine i_aload_n rfl rfl ?_
  refine i_aload_n rfl rfl ?_
  refine i_iload_n rfl rfl ?_
  refine i_iconst (n := 1) rfl (by unfold iR; omega) ?_
  refine i_iadd rfl (by unfold iR; omega) ?_
  refine i_sald rfl rfl (by omega) (by omega) ?_
  refine i_aload_n rfl rfl ?_
  refine i_iload_n rfl rfl ?_
  refine i_iconst (n := 2) rfl (by unfold iR; omega) ?_
  refine i_iadd rfl (by unfold iR; omega) ?_
  refine i_sald rfl rfl (by omega) (by omega) ?_
  refine i_aload_n rfl rfl ?_
  refine i_iload_n rfl rfl ?_
  refine i_iconst (n := 3) rfl (by unfold iR; omega) ?_
  refine i_iadd rfl (by unfold iR; omega) ?_
  refine i_sald rfl rfl (by omega) (by omega) ?_
  refine i_call (T := (162, zp_162)) rfl rfl h2 rfl rfl rfl rfl rfl rfl rfl ?_
  show irun (some (L, xs)) zp_165 459 [some (iP 1000000), some (iP 0), some (iP 40), some (iI (i : Int))] [iI r, iI r] (SH b') M2 63 6973 q
  refine i_icmp_eq_t rfl rfl ?_
  exact hq
set_option maxRecDepth 100000 in
theorem l_at {L i : Nat} {xs : Nat → Int32} {b : Bool} {M : iM} {w : Int} (hL : L ≤ 2048) (hi : i + 4 ≤ L) (h : Inv w b M) (hw0 : 0 ≤ w) (hw : w < 700000000) : ∃ b' M2, Inv (w + 300) b' M2 ∧ ∀ q, irun (some (L, xs)) zp_165 510 [some (iP 1000000), some (iP 0), some (iP 40), some (iI (i : Int))] [] (SH b') M2 63 6973 q → irun (some (L, xs)) zp_165 464 [some (iP 1000000), some (iP 0), some (iP 40), some (iI (i : Int))] [] (SH b) M 63 6973 q := by
  obtain ⟨r, b', M1, M2, h1, h2, hI⟩ := o_at (s := (xs ((i : Int) + 1).toNat).toInt) (p := (xs ((i : Int) + 2).toNat).toInt) h
  refine ⟨b', M2, hI, fun q hq => ?_⟩
  refine i_aload_n rfl rfl ?_
  refine i_aload_n rfl rfl ?_
  refine i_iload_n rfl rfl ?_
  refine i_iconst (n := 1) rfl (by unfold iR; omega) ?_
  refine i_iadd rfl (by unfold iR; omega) ?_
  refine i_sald rfl rfl (by omega) (by omega) ?_
  refine i_aload_n rfl rfl ?_
  refine i_iload_n rfl rfl ?_
  refine i_iconst (n := 2) rfl (by unfold iR; omega) ?_
  refine i_iadd rfl (by unfold iR; omega) ?_
  refine i_sald rfl rfl (by omega) (by omega) ?_
  refine i_call (T := (15, zp_15)) rfl rfl h1 rfl rfl rfl rfl rfl rfl rfl ?_
  show irun (some (L, xs)) zp_165 478 [some (iP 1000000), some (iP 0), some (iP 40), some (iI (i : Int))] [iI r] (SH b') M1 63 6973 q
  refine i_aload_n rfl rfl ?_
  refine i_aload_n rfl rfl ?_
  refine i_iload_n rfl rfl ?_
  refine i_iconst (n := 1) rfl (by unfold iR; omega) ?_
  refine i_iadd rfl (by unfold iR; omega) ?_
  refine i_sald rfl rfl (by omega) (by omega) ?_
  refine i_aload_n rfl rfl ?_
  refine i_iload_n rfl rfl ?_
  refine i_iconst (n := 2) rfl (by unfold iR; omega) ?_
  refine i_iadd rfl (by unfold iR; omega) ?_
  refine i_sald rfl rfl (by omega) (by omega) ?_
  refine i_call (T := (163, zp_163)) rfl rfl h2 rfl rfl rfl rfl rfl rfl rfl ?_
  show irun (some (L, xs)) zp_165 492 [some (iP 1000000), some (iP 0), some (iP 40), some (iI (i : Int))] [iI r, iI r] (SH b') M2 63 6973 q
  refine i_icmp_eq_t rfl rfl ?_
  exact hq
set_option maxRecDepth 100000 in
theorem l_number {L i : Nat} {xs : Nat → Int32} {b : Bool} {M : iM} {w : Int} (hL : L ≤ 2048) (hi : i + 4 ≤ L) (h : Inv w b M) (hw0 : 0 ≤ w) (hw : w < 700000000) : ∃ b' M2, Inv (w + 300) b' M2 ∧ ∀ q, irun (some (L, xs)) zp_165 510 [some (iP 1000000), some (iP 0), some (iP 40), some (iI (i : Int))] [] (SH b') M2 63 6973 q → irun (some (L, xs)) zp_165 497 [some (iP 1000000), some (iP 0), some (iP 40), some (iI (i : Int))] [] (SH b) M 63 6973 q := by
  obtain ⟨r, b', M1, M2, h1, h2, hI⟩ := o_number  h
  refine ⟨b', M2, hI, fun q hq => ?_⟩
  refine i_aload_n rfl rfl ?_
  refine i_call (T := (16, zp_16)) rfl rfl h1 rfl rfl rfl rfl rfl rfl rfl ?_
  show irun (some (L, xs)) zp_165 501 [some (iP 1000000), some (iP 0), some (iP 40), some (iI (i : Int))] [iI r] (SH b') M1 63 6973 q
  refine i_aload_n rfl rfl ?_
  refine i_call (T := (164, zp_164)) rfl rfl h2 rfl rfl rfl rfl rfl rfl rfl ?_
  show irun (some (L, xs)) zp_165 505 [some (iP 1000000), some (iP 0), some (iP 40), some (iI (i : Int))] [iI r, iI r] (SH b') M2 63 6973 q
  refine i_icmp_eq_t rfl rfl ?_
  exact hq
set_option maxRecDepth 100000 in
theorem l_loop {L : Nat} {xs : Nat → Int32} (hL : L ≤ 2048) : ∀ (d i : Nat) (b : Bool) (M : iM), L ≤ i + 4 * d + 3 → i ≤ 3000 → Inv (300 * (i : Int)) b M → ∃ b' M', irun (some (L, xs)) zp_165 18 [some (iP 1000000), some (iP 0), some (iP 40), some (iI (i : Int))] [] (SH b) M 63 6973 (some 1, SH b', M') := by
  intro d
  induction d with
  | zero =>
    intro i b M hd hi h
    refine ⟨b, M, ?_⟩
    refine i_iload_n rfl rfl ?_
    refine i_aload_n rfl rfl ?_
    refine i_slen rfl rfl (by omega) ?_
    refine i_iconst (n := 4) rfl (by unfold iR; omega) ?_
    refine i_isub rfl (by unfold iR; omega) ?_
    refine i_icmp_gt_t rfl (by first | omega | assumption) ?_
    refine i_iconst (n := 1) rfl (by unfold iR; omega) ?_
    exact i_zreturn rfl rfl (by omega)
  | succ d ih =>
    intro i b M hd hi h
    by_cases c : i + 4 ≤ L
    · have nx : ∀ (b1 : Bool) (M2 : iM), Inv (300 * (i : Int) + 300) b1 M2 → ∃ b' M', irun (some (L, xs)) zp_165 510 [some (iP 1000000), some (iP 0), some (iP 40), some (iI (i : Int))] [] (SH b1) M2 63 6973 (some 1, SH b', M') := by
        intro b1 M2 hI
        obtain ⟨b', M', g⟩ := ih (i + 4) b1 M2 (by omega) (by omega) (Inv_w hI (by omega))
        refine ⟨b', M', ?_⟩
        rw [show ((i + 4 : Nat) : Int) = (i : Int) + 4 by omega] at g
        refine i_iinc rfl rfl (by unfold iR; omega) (Nat.le_of_ble_eq_true rfl) rfl ?_
        refine i_goto rfl ?_
        exact g
      have pre : ∀ q, irun (some (L, xs)) zp_165 32 [some (iP 1000000), some (iP 0), some (iP 40), some (iI (i : Int))] [iI ((xs (i : Int).toNat).toInt % (15 + 1))] (SH b) M 63 6973 q → irun (some (L, xs)) zp_165 18 [some (iP 1000000), some (iP 0), some (iP 40), some (iI (i : Int))] [] (SH b) M 63 6973 q := by
        intro q hq
        refine i_iload_n rfl rfl ?_
        refine i_aload_n rfl rfl ?_
        refine i_slen rfl rfl (by omega) ?_
        refine i_iconst (n := 4) rfl (by unfold iR; omega) ?_
        refine i_isub rfl (by unfold iR; omega) ?_
        refine i_icmp_gt_f rfl (by first | omega | assumption) ?_
        refine i_aload_n rfl rfl ?_
        refine i_iload_n rfl rfl ?_
        refine i_sald rfl rfl (by omega) (by omega) ?_
        refine i_bipush (n := 15) rfl (by unfold iR; omega) (by decide) ?_
        refine i_iand 4 rfl (by decide) (by decide) ?_
        exact hq
      have ho : 0 ≤ (xs (i : Int).toNat).toInt % (15 + 1) ∧ (xs (i : Int).toNat).toInt % (15 + 1) < 16 := by omega
      generalize (xs (i : Int).toNat).toInt % (15 + 1) = o at pre ho
      rcases (show o = 0 ∨ o = 1 ∨ o = 2 ∨ o = 3 ∨ o = 4 ∨ o = 5 ∨ o = 6 ∨ o = 7 ∨ o = 8 ∨ o = 9 ∨ o = 10 ∨ o = 11 ∨ o = 12 ∨ o = 13 ∨ o = 14 ∨ o = 15 by omega) with e | e | e | e | e | e | e | e | e | e | e | e | e | e | e | e
      · subst e
        obtain ⟨b1, M2, hI, g⟩ := l_write (L := L) (i := i) (xs := xs) hL c h (by omega) (by omega)
        obtain ⟨b', M', g2⟩ := nx b1 M2 hI
        refine ⟨b', M', pre _ ?_⟩
        refine i_tsw (t := 112) rfl rfl ?_
        exact g _ g2
      · subst e
        obtain ⟨b1, M2, hI, g⟩ := l_add (L := L) (i := i) (xs := xs) hL c h (by omega) (by omega)
        obtain ⟨b', M', g2⟩ := nx b1 M2 hI
        refine ⟨b', M', pre _ ?_⟩
        refine i_tsw (t := 175) rfl rfl ?_
        exact g _ g2
      · subst e
        obtain ⟨b1, M2, hI, g⟩ := l_remove (L := L) (i := i) (xs := xs) hL c h (by omega) (by omega)
        obtain ⟨b', M', g2⟩ := nx b1 M2 hI
        refine ⟨b', M', pre _ ?_⟩
        refine i_tsw (t := 198) rfl rfl ?_
        exact g _ g2
      · subst e
        obtain ⟨b1, M2, hI, g⟩ := l_drop (L := L) (i := i) (xs := xs) hL c h (by omega) (by omega)
        obtain ⟨b', M', g2⟩ := nx b1 M2 hI
        refine ⟨b', M', pre _ ?_⟩
        refine i_tsw (t := 231) rfl rfl ?_
        exact g _ g2
      · subst e
        obtain ⟨b1, M2, hI, g⟩ := l_commit (L := L) (i := i) (xs := xs) hL c h (by omega) (by omega)
        obtain ⟨b', M', g2⟩ := nx b1 M2 hI
        refine ⟨b', M', pre _ ?_⟩
        refine i_tsw (t := 244) rfl rfl ?_
        exact g _ g2
      · subst e
        obtain ⟨b1, M2, hI, g⟩ := l_extract (L := L) (i := i) (xs := xs) hL c h (by omega) (by omega)
        obtain ⟨b', M', g2⟩ := nx b1 M2 hI
        refine ⟨b', M', pre _ ?_⟩
        refine i_tsw (t := 257) rfl rfl ?_
        exact g _ g2
      · subst e
        obtain ⟨b1, M2, hI, g⟩ := l_extracted (L := L) (i := i) (xs := xs) hL c h (by omega) (by omega)
        obtain ⟨b', M', g2⟩ := nx b1 M2 hI
        refine ⟨b', M', pre _ ?_⟩
        refine i_tsw (t := 290) rfl rfl ?_
        exact g _ g2
      · subst e
        obtain ⟨b1, M2, hI, g⟩ := l_files (L := L) (i := i) (xs := xs) hL c h (by omega) (by omega)
        obtain ⟨b', M', g2⟩ := nx b1 M2 hI
        refine ⟨b', M', pre _ ?_⟩
        refine i_tsw (t := 313) rfl rfl ?_
        exact g _ g2
      · subst e
        obtain ⟨b1, M2, hI, g⟩ := l_file (L := L) (i := i) (xs := xs) hL c h (by omega) (by omega)
        obtain ⟨b', M', g2⟩ := nx b1 M2 hI
        refine ⟨b', M', pre _ ?_⟩
        refine i_tsw (t := 326) rfl rfl ?_
        exact g _ g2
      · subst e
        obtain ⟨b1, M2, hI, g⟩ := l_repair (L := L) (i := i) (xs := xs) hL c h (by omega) (by omega)
        obtain ⟨b', M', g2⟩ := nx b1 M2 hI
        refine ⟨b', M', pre _ ?_⟩
        refine i_tsw (t := 359) rfl rfl ?_
        exact g _ g2
      · subst e
        obtain ⟨b1, M2, hI, g⟩ := l_limit (L := L) (i := i) (xs := xs) hL c h (by omega) (by omega)
        obtain ⟨b', M', g2⟩ := nx b1 M2 hI
        refine ⟨b', M', pre _ ?_⟩
        refine i_tsw (t := 372) rfl rfl ?_
        exact g _ g2
      · subst e
        obtain ⟨b1, M2, hI, g⟩ := l_open (L := L) (i := i) (xs := xs) hL c h (by omega) (by omega)
        obtain ⟨b', M', g2⟩ := nx b1 M2 hI
        refine ⟨b', M', pre _ ?_⟩
        refine i_tsw (t := 395) rfl rfl ?_
        exact g _ g2
      · subst e
        obtain ⟨b1, M2, hI, g⟩ := l_down (L := L) (i := i) (xs := xs) hL c h (by omega) (by omega)
        obtain ⟨b', M', g2⟩ := nx b1 M2 hI
        refine ⟨b', M', pre _ ?_⟩
        refine i_tsw (t := 408) rfl rfl ?_
        exact g _ g2
      · subst e
        obtain ⟨b1, M2, hI, g⟩ := l_damage (L := L) (i := i) (xs := xs) hL c h (by omega) (by omega)
        obtain ⟨b', M', g2⟩ := nx b1 M2 hI
        refine ⟨b', M', pre _ ?_⟩
        refine i_tsw (t := 421) rfl rfl ?_
        exact g _ g2
      · subst e
        obtain ⟨b1, M2, hI, g⟩ := l_at (L := L) (i := i) (xs := xs) hL c h (by omega) (by omega)
        obtain ⟨b', M', g2⟩ := nx b1 M2 hI
        refine ⟨b', M', pre _ ?_⟩
        refine i_tsw (t := 464) rfl rfl ?_
        exact g _ g2
      · subst e
        obtain ⟨b1, M2, hI, g⟩ := l_number (L := L) (i := i) (xs := xs) hL c h (by omega) (by omega)
        obtain ⟨b', M', g2⟩ := nx b1 M2 hI
        refine ⟨b', M', pre _ ?_⟩
        refine i_tsw (t := 497) rfl rfl ?_
        exact g _ g2
    · refine ⟨b, M, ?_⟩
      refine i_iload_n rfl rfl ?_
      refine i_aload_n rfl rfl ?_
      refine i_slen rfl rfl (by omega) ?_
      refine i_iconst (n := 4) rfl (by unfold iR; omega) ?_
      refine i_isub rfl (by unfold iR; omega) ?_
      refine i_icmp_gt_t rfl (by first | omega | assumption) ?_
      refine i_iconst (n := 1) rfl (by unfold iR; omega) ?_
      exact i_zreturn rfl rfl (by omega)
