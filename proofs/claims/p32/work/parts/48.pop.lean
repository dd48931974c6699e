theorem pc_0 : allB (fun l => pcX (1024 * 0 + l)) 1024 = true := by decide +kernel
theorem pc_1 : allB (fun l => pcX (1024 * 1 + l)) 1024 = true := by decide +kernel
theorem pc_2 : allB (fun l => pcX (1024 * 2 + l)) 1024 = true := by decide +kernel
theorem pc_3 : allB (fun l => pcX (1024 * 3 + l)) 1024 = true := by decide +kernel
theorem pc_4 : allB (fun l => pcX (1024 * 4 + l)) 1024 = true := by decide +kernel
theorem pc_5 : allB (fun l => pcX (1024 * 5 + l)) 1024 = true := by decide +kernel
theorem pc_6 : allB (fun l => pcX (1024 * 6 + l)) 1024 = true := by decide +kernel
theorem pc_7 : allB (fun l => pcX (1024 * 7 + l)) 1024 = true := by decide +kernel
theorem pc_8 : allB (fun l => pcX (1024 * 8 + l)) 1024 = true := by decide +kernel
theorem pc_9 : allB (fun l => pcX (1024 * 9 + l)) 1024 = true := by decide +kernel
theorem pc_10 : allB (fun l => pcX (1024 * 10 + l)) 1024 = true := by decide +kernel
theorem pc_11 : allB (fun l => pcX (1024 * 11 + l)) 1024 = true := by decide +kernel
theorem pc_12 : allB (fun l => pcX (1024 * 12 + l)) 1024 = true := by decide +kernel
theorem pc_13 : allB (fun l => pcX (1024 * 13 + l)) 1024 = true := by decide +kernel
theorem pc_14 : allB (fun l => pcX (1024 * 14 + l)) 1024 = true := by decide +kernel
theorem pc_15 : allB (fun l => pcX (1024 * 15 + l)) 1024 = true := by decide +kernel
theorem pc_16 : allB (fun l => pcX (1024 * 16 + l)) 1024 = true := by decide +kernel
theorem pc_17 : allB (fun l => pcX (1024 * 17 + l)) 1024 = true := by decide +kernel
theorem pc_18 : allB (fun l => pcX (1024 * 18 + l)) 1024 = true := by decide +kernel
theorem pc_19 : allB (fun l => pcX (1024 * 19 + l)) 1024 = true := by decide +kernel
theorem pc_20 : allB (fun l => pcX (1024 * 20 + l)) 1024 = true := by decide +kernel
theorem pc_21 : allB (fun l => pcX (1024 * 21 + l)) 1024 = true := by decide +kernel
theorem pc_22 : allB (fun l => pcX (1024 * 22 + l)) 1024 = true := by decide +kernel
theorem pc_23 : allB (fun l => pcX (1024 * 23 + l)) 1024 = true := by decide +kernel
theorem pc_24 : allB (fun l => pcX (1024 * 24 + l)) 1024 = true := by decide +kernel
theorem pc_25 : allB (fun l => pcX (1024 * 25 + l)) 1024 = true := by decide +kernel
theorem pc_26 : allB (fun l => pcX (1024 * 26 + l)) 1024 = true := by decide +kernel
theorem pc_27 : allB (fun l => pcX (1024 * 27 + l)) 1024 = true := by decide +kernel
theorem pc_28 : allB (fun l => pcX (1024 * 28 + l)) 1024 = true := by decide +kernel
theorem pc_29 : allB (fun l => pcX (1024 * 29 + l)) 1024 = true := by decide +kernel
theorem pc_30 : allB (fun l => pcX (1024 * 30 + l)) 1024 = true := by decide +kernel
theorem pc_31 : allB (fun l => pcX (1024 * 31 + l)) 1024 = true := by decide +kernel
theorem pc_32 : allB (fun l => pcX (1024 * 32 + l)) 1024 = true := by decide +kernel
theorem pc_33 : allB (fun l => pcX (1024 * 33 + l)) 1024 = true := by decide +kernel
theorem pc_34 : allB (fun l => pcX (1024 * 34 + l)) 1024 = true := by decide +kernel
theorem pc_35 : allB (fun l => pcX (1024 * 35 + l)) 1024 = true := by decide +kernel
theorem pc_36 : allB (fun l => pcX (1024 * 36 + l)) 1024 = true := by decide +kernel
theorem pc_37 : allB (fun l => pcX (1024 * 37 + l)) 1024 = true := by decide +kernel
theorem pc_38 : allB (fun l => pcX (1024 * 38 + l)) 1024 = true := by decide +kernel
theorem pc_39 : allB (fun l => pcX (1024 * 39 + l)) 1024 = true := by decide +kernel
theorem pc_40 : allB (fun l => pcX (1024 * 40 + l)) 1024 = true := by decide +kernel
theorem pc_41 : allB (fun l => pcX (1024 * 41 + l)) 1024 = true := by decide +kernel
theorem pc_42 : allB (fun l => pcX (1024 * 42 + l)) 1024 = true := by decide +kernel
theorem pc_43 : allB (fun l => pcX (1024 * 43 + l)) 1024 = true := by decide +kernel
theorem pc_44 : allB (fun l => pcX (1024 * 44 + l)) 1024 = true := by decide +kernel
theorem pc_45 : allB (fun l => pcX (1024 * 45 + l)) 1024 = true := by decide +kernel
theorem pc_46 : allB (fun l => pcX (1024 * 46 + l)) 1024 = true := by decide +kernel
theorem pc_47 : allB (fun l => pcX (1024 * 47 + l)) 1024 = true := by decide +kernel
theorem pc_48 : allB (fun l => pcX (1024 * 48 + l)) 1024 = true := by decide +kernel
theorem pc_49 : allB (fun l => pcX (1024 * 49 + l)) 1024 = true := by decide +kernel
theorem pc_50 : allB (fun l => pcX (1024 * 50 + l)) 1024 = true := by decide +kernel
theorem pc_51 : allB (fun l => pcX (1024 * 51 + l)) 1024 = true := by decide +kernel
theorem pc_52 : allB (fun l => pcX (1024 * 52 + l)) 1024 = true := by decide +kernel
theorem pc_53 : allB (fun l => pcX (1024 * 53 + l)) 1024 = true := by decide +kernel
theorem pc_54 : allB (fun l => pcX (1024 * 54 + l)) 1024 = true := by decide +kernel
theorem pc_55 : allB (fun l => pcX (1024 * 55 + l)) 1024 = true := by decide +kernel
theorem pc_56 : allB (fun l => pcX (1024 * 56 + l)) 1024 = true := by decide +kernel
theorem pc_57 : allB (fun l => pcX (1024 * 57 + l)) 1024 = true := by decide +kernel
theorem pc_58 : allB (fun l => pcX (1024 * 58 + l)) 1024 = true := by decide +kernel
theorem pc_59 : allB (fun l => pcX (1024 * 59 + l)) 1024 = true := by decide +kernel
theorem pc_60 : allB (fun l => pcX (1024 * 60 + l)) 1024 = true := by decide +kernel
theorem pc_61 : allB (fun l => pcX (1024 * 61 + l)) 1024 = true := by decide +kernel
theorem pc_62 : allB (fun l => pcX (1024 * 62 + l)) 1024 = true := by decide +kernel
theorem pc_63 : allB (fun l => pcX (1024 * 63 + l)) 1024 = true := by decide +kernel
theorem pc_c : ∀ c, c < 64 → allB (fun l => pcX (1024 * c + l)) 1024 = true
  | 0, _ => pc_0
  | 1, _ => pc_1
  | 2, _ => pc_2
  | 3, _ => pc_3
  | 4, _ => pc_4
  | 5, _ => pc_5
  | 6, _ => pc_6
  | 7, _ => pc_7
  | 8, _ => pc_8
  | 9, _ => pc_9
  | 10, _ => pc_10
  | 11, _ => pc_11
  | 12, _ => pc_12
  | 13, _ => pc_13
  | 14, _ => pc_14
  | 15, _ => pc_15
  | 16, _ => pc_16
  | 17, _ => pc_17
  | 18, _ => pc_18
  | 19, _ => pc_19
  | 20, _ => pc_20
  | 21, _ => pc_21
  | 22, _ => pc_22
  | 23, _ => pc_23
  | 24, _ => pc_24
  | 25, _ => pc_25
  | 26, _ => pc_26
  | 27, _ => pc_27
  | 28, _ => pc_28
  | 29, _ => pc_29
  | 30, _ => pc_30
  | 31, _ => pc_31
  | 32, _ => pc_32
  | 33, _ => pc_33
  | 34, _ => pc_34
  | 35, _ => pc_35
  | 36, _ => pc_36
  | 37, _ => pc_37
  | 38, _ => pc_38
  | 39, _ => pc_39
  | 40, _ => pc_40
  | 41, _ => pc_41
  | 42, _ => pc_42
  | 43, _ => pc_43
  | 44, _ => pc_44
  | 45, _ => pc_45
  | 46, _ => pc_46
  | 47, _ => pc_47
  | 48, _ => pc_48
  | 49, _ => pc_49
  | 50, _ => pc_50
  | 51, _ => pc_51
  | 52, _ => pc_52
  | 53, _ => pc_53
  | 54, _ => pc_54
  | 55, _ => pc_55
  | 56, _ => pc_56
  | 57, _ => pc_57
  | 58, _ => pc_58
  | 59, _ => pc_59
  | 60, _ => pc_60
  | 61, _ => pc_61
  | 62, _ => pc_62
  | 63, _ => pc_63
  | n + 64, h => absurd h (by omega)
theorem pcX_t {n : Nat} (h : n < 65536) : pcX n = true := by
  have := allB_t (pc_c (n / 1024) (by omega)) (n % 1024) (by omega)
  rw [show 1024 * (n / 1024) + n % 1024 = n by omega] at this
  exact this

