set_option maxRecDepth 100000 in
theorem l_start {L : Nat} {xs : Nat → Int32} (hL : L ≤ 2048) : ∃ b' M', irun (some (L, xs)) zp_165 0 (i_ent [iP 1000000] 4) [] [] (fun _ _ => 0) 0 0 (some 1, SH b', M') := by
  obtain ⟨N, r1, z1⟩ := k_X (M := va_up (fun _ _ => 0) 0 (fun _ => 0)) rfl
  obtain ⟨N2, r2, y1, y2, y3⟩ := k_M (M := va_up N 40 (fun _ => 0)) rfl
  obtain ⟨x0, x1, x2, x3, x4⟩ := z1
  have lo : ∀ c, c < 40 → N2 c = N c := fun c hc => by rw [y1 c hc, up_n (by omega)]
  have inv := Inv_0 (M := N2) (by rw [lo 0 (by omega)]; exact x0) (by rw [lo 1 (by omega)]; exact x1) (by rw [lo 2 (by omega)]; exact x2) (by rw [lo 3 (by omega)]; exact x3) y2 (fun c h1 h2 h3 => by
    by_cases c40 : c < 40
    · rw [lo c c40]; exact x4 c h1 c40
    · exact y3 c (by omega) h2 h3)
  obtain ⟨b', M', g⟩ := l_loop (xs := xs) hL 512 0 false N2 (by omega) (by omega) inv
  refine ⟨b', M', ?_⟩
  refine i_new rfl rfl rfl rfl (by decide) (by decide) (by decide) ?_
  show irun (some (L, xs)) zp_165 3 _ [iP 0] [(0, 0, [none, none, none, none, none, none, none, none, none, none, none])] (va_up (fun _ _ => 0) 0 (fun _ => 0)) 1 11 _
  refine i_dupr rfl ?_
  refine i_callA (T := (0, zp_0)) rfl rfl r1 rfl rfl rfl rfl (Nat.le_of_ble_eq_true rfl) rfl ?_
  show irun (some (L, xs)) zp_165 7 _ [iP 0] [(0, 0, [some 1, some 5, some 11, some 32, some 33, some 34, some 35, none, none, some 36, some 38]), (0, 1, [some 2, some 3, some 4, none, none, none]), (1, 720, []), (1, 256, []), (1, 11, []), (0, 3, [some 6, some 7, some 8, some 9, some 10, none, none, none, none]), (1, 24, []), (1, 96, []), (1, 4, []), (1, 4, []), (2, 10, []), (0, 9, [some 12, some 28, some 30, some 31, none, none, none]), (3, 4, [some 13, some 14, some 15, some 18]), (0, 5, []), (0, 6, []), (0, 7, [some 16, some 17]), (0, 6, []), (1, 256, []), (0, 8, [some 19, some 20, some 21, some 22, some 23, some 24, some 25, some 26, some 27, none]), (1, 127, []), (1, 127, []), (1, 127, []), (1, 127, []), (1, 127, []), (1, 127, []), (1, 17, []), (1, 17, []), (1, 256, []), (0, 4, [some 29, none, none]), (1, 256, []), (1, 259, []), (1, 256, []), (1, 8, []), (1, 7, []), (1, 528, []), (1, 24, []), (0, 2, [some 37, none, none, none, none]), (1, 70, []), (0, 2, [some 39, none, none, none, none]), (1, 70, [])] N 40 3973 _
  refine i_astore_n rfl (Nat.le_of_ble_eq_true rfl) rfl ?_
  refine i_new rfl rfl rfl rfl (by decide) (by decide) (by decide) ?_
  show irun (some (L, xs)) zp_165 11 _ [iP 40] [(0, 0, [some 1, some 5, some 11, some 32, some 33, some 34, some 35, none, none, some 36, some 38]), (0, 1, [some 2, some 3, some 4, none, none, none]), (1, 720, []), (1, 256, []), (1, 11, []), (0, 3, [some 6, some 7, some 8, some 9, some 10, none, none, none, none]), (1, 24, []), (1, 96, []), (1, 4, []), (1, 4, []), (2, 10, []), (0, 9, [some 12, some 28, some 30, some 31, none, none, none]), (3, 4, [some 13, some 14, some 15, some 18]), (0, 5, []), (0, 6, []), (0, 7, [some 16, some 17]), (0, 6, []), (1, 256, []), (0, 8, [some 19, some 20, some 21, some 22, some 23, some 24, some 25, some 26, some 27, none]), (1, 127, []), (1, 127, []), (1, 127, []), (1, 127, []), (1, 127, []), (1, 127, []), (1, 17, []), (1, 17, []), (1, 256, []), (0, 4, [some 29, none, none]), (1, 256, []), (1, 259, []), (1, 256, []), (1, 8, []), (1, 7, []), (1, 528, []), (1, 24, []), (0, 2, [some 37, none, none, none, none]), (1, 70, []), (0, 2, [some 39, none, none, none, none]), (1, 70, []), (0, 10, [none, none, none, none, none, none, none, none, none, none, none, none, none, none, none, none, none, none, none, none, none, none, none, none, none, none, none, none, none, none, none, none, none, none, none, none, none, none, none, none, none, none])] (va_up N 40 (fun _ => 0)) 41 4015 _
  refine i_dupr rfl ?_
  refine i_callA (T := (108, zp_108)) rfl rfl r2 rfl rfl rfl rfl (Nat.le_of_ble_eq_true rfl) rfl ?_
  show irun (some (L, xs)) zp_165 15 _ [iP 40] (SH false) N2 63 6973 _
  refine i_astore_n rfl (Nat.le_of_ble_eq_true rfl) rfl ?_
  refine i_iconst (n := 0) rfl (by unfold iR; omega) ?_
  refine i_istore_n rfl (Nat.le_of_ble_eq_true rfl) rfl ?_
  exact g
theorem z_law_true {L : Nat} {xs : Nat → Int32} (hL : L ≤ 2048) : ∃ sh mm, z_run f_gt f_st f_nw f_cp (some (L, xs)) zp_165 0 (z_ent [.ref 1000000] 4) [] [] (i_M (fun _ _ => 0)) 0 0 (some (.int 1), sh, mm) := by
  obtain ⟨b', M', h⟩ := l_start (xs := xs) hL
  obtain ⟨_, _, h3⟩ := h (fun _ _ => iR_0) (i_ent_ok (fun v hv => by
    rw [List.mem_singleton.mp hv]
    trivial) _) (fun v hv => by cases hv)
  exact ⟨_, _, h3⟩
