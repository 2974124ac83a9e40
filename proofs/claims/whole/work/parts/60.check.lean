noncomputable def SH (b : Bool) : List zS := [
  (0, 0, [some 1, some 5, some 11, some 32, some 33, some 34, some 35, none, none, some (bif b then 38 else 36), some (bif b then 36 else 38)]),
  (0, 1, [some 2, some 3, some 4, none, none, none]),
  (1, 720, []),
  (1, 256, []),
  (1, 11, []),
  (0, 3, [some 6, some 7, some 8, some 9, some 10, none, none, none, none]),
  (1, 24, []),
  (1, 96, []),
  (1, 4, []),
  (1, 4, []),
  (2, 10, []),
  (0, 9, [some 12, some 28, some 30, some 31, none, none, none]),
  (3, 4, [some 13, some 14, some 15, some 18]),
  (0, 5, []),
  (0, 6, []),
  (0, 7, [some 16, some 17]),
  (0, 6, []),
  (1, 256, []),
  (0, 8, [some 19, some 20, some 21, some 22, some 23, some 24, some 25, some 26, some 27, none]),
  (1, 127, []),
  (1, 127, []),
  (1, 127, []),
  (1, 127, []),
  (1, 127, []),
  (1, 127, []),
  (1, 17, []),
  (1, 17, []),
  (1, 256, []),
  (0, 4, [some 29, none, none]),
  (1, 256, []),
  (1, 259, []),
  (1, 256, []),
  (1, 8, []),
  (1, 7, []),
  (1, 528, []),
  (1, 24, []),
  (0, 2, [some 37, none, none, none, none]),
  (1, 70, []),
  (0, 2, [some 39, none, none, none, none]),
  (1, 70, []),
  (0, 10, [some 41, none, none, none, some 42, some 43, none, none, none, none, some 44, some 45, none, none, none, none, some 46, some 47, some 48, some 49, none, none, some 50, some 51, some 52, none, none, some 53, some 54, some 55, some 56, some 57, some 58, some 59, some 60, some 61, none, none, none, none, some 62, none]),
  (1, 720, []),
  (1, 80, []),
  (1, 80, []),
  (1, 8, []),
  (1, 24, []),
  (1, 4, []),
  (1, 4, []),
  (1, 96, []),
  (2, 10, []),
  (1, 128, []),
  (1, 12, []),
  (1, 96, []),
  (1, 128, []),
  (1, 128, []),
  (1, 128, []),
  (1, 128, []),
  (1, 128, []),
  (1, 128, []),
  (1, 128, []),
  (1, 520, []),
  (1, 256, []),
  (1, 24, [])
]
def h1 (x : Int) : Int := if 128 ≤ x then (ix (2 * x) 29) % 256 else 2 * x
def hN : Nat → Int → Int
  | 0, x => x
  | n + 1, x => h1 (hN n x)
theorem h1_b {x : Int} (h0 : 0 ≤ x) (h : x < 256) : 0 ≤ h1 x ∧ h1 x < 256 := by
  unfold h1
  split <;> omega
theorem hN_b (n : Nat) {x : Int} (h0 : 0 ≤ x) (h : x < 256) : 0 ≤ hN n x ∧ hN n x < 256 := by
  induction n with
  | zero => exact ⟨h0, h⟩
  | succ n ih => exact h1_b ih.1 ih.2
set_option maxRecDepth 100000 in
theorem c_mix {sh : List zS} {M : iM} {x : Int} (h0 : 0 ≤ x) (h : x < 256) : irun none zp_29 0 (i_ent [iI x] 3) [] sh M 0 0 (some (hN 8 x), sh, M) := by
  have loop : ∀ (n i : Nat), i + n = 8 → irun none zp_29 4 [some (iI x), some (iI (hN i x)), some (iI (i : Int))] [] sh M 0 0 (some (hN 8 x), sh, M) := by
    intro n
    induction n with
    | zero =>
      intro i hi
      obtain rfl : i = 8 := by omega
      refine i_iload_n rfl rfl ?_
      refine i_bipush (n := 8) rfl (by unfold iR; omega) (by decide) ?_
      refine i_icmp_ge_t rfl (by first | assumption | omega) ?_
      refine i_iload_n rfl rfl ?_
      -- at 41
      exact i_ireturn rfl rfl
    | succ n ih =>
      intro i hi
      have hb := hN_b i h0 h
      have hn := ih (i + 1) (by omega)
      by_cases hc : 128 ≤ hN i x
      · have e : hN (i + 1) x = (ix (2 * hN i x) 29) % (255 + 1) := by
          show h1 (hN i x) = _
          unfold h1
          rw [if_pos hc]
          rfl
        rw [e] at hn
        refine i_iload_n rfl rfl ?_
        refine i_bipush (n := 8) rfl (by unfold iR; omega) (by decide) ?_
        refine i_icmp_ge_f rfl (by first | assumption | omega) ?_
        refine i_iload_n rfl rfl ?_
        refine i_sipush (n := 128) rfl (by unfold iR; omega) (by decide) ?_
        refine i_icmp_lt_f rfl (by first | assumption | omega) ?_
        refine i_iconst (n := 2) rfl (by unfold iR; omega) ?_
        refine i_iload_n rfl rfl ?_
        refine i_imul rfl (by unfold iR; omega) ?_
        refine i_bipush (n := 29) rfl (by unfold iR; omega) (by decide) ?_
        refine i_ixor rfl (by first | assumption | omega) (by first | assumption | omega) ?_
        refine i_sipush (n := 255) rfl (by unfold iR; omega) (by decide) ?_
        refine i_iand 8 rfl (by decide) (by decide) ?_
        refine i_goto rfl ?_
        refine i_istore_n rfl (Nat.le_of_ble_eq_true rfl) rfl ?_
        refine i_iinc rfl rfl (by unfold iR; omega) (Nat.le_of_ble_eq_true rfl) rfl ?_
        refine i_goto rfl ?_
        -- at 4
        exact hn
      · have e : hN (i + 1) x = 2 * hN i x := by
          show h1 (hN i x) = _
          unfold h1
          rw [if_neg hc]
        rw [e] at hn
        refine i_iload_n rfl rfl ?_
        refine i_bipush (n := 8) rfl (by unfold iR; omega) (by decide) ?_
        refine i_icmp_ge_f rfl (by first | assumption | omega) ?_
        refine i_iload_n rfl rfl ?_
        refine i_sipush (n := 128) rfl (by unfold iR; omega) (by decide) ?_
        refine i_icmp_lt_t rfl (by first | assumption | omega) ?_
        refine i_iconst (n := 2) rfl (by unfold iR; omega) ?_
        refine i_iload_n rfl rfl ?_
        refine i_imul rfl (by unfold iR; omega) ?_
        refine i_istore_n rfl (Nat.le_of_ble_eq_true rfl) rfl ?_
        refine i_iinc rfl rfl (by unfold iR; omega) (Nat.le_of_ble_eq_true rfl) rfl ?_
        refine i_goto rfl ?_
        -- at 4
        exact hn
  refine i_iload_n rfl rfl ?_
  refine i_istore_n rfl (Nat.le_of_ble_eq_true rfl) rfl ?_
  refine i_iconst (n := 0) rfl (by unfold iR; omega) ?_
  refine i_istore_n rfl (Nat.le_of_ble_eq_true rfl) rfl ?_
  -- at 4
  exact loop 8 0 rfl
