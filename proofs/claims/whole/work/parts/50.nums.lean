theorem i_0 : (0 : Int32) = nI 0 := rfl
theorem i_1 : (1 : Int32) = nI 1 := rfl
theorem i_2 : (2 : Int32) = nI 2 := rfl
theorem i_3 : (3 : Int32) = nI 3 := rfl
theorem i_4 : (4 : Int32) = nI 4 := rfl
theorem i_5 : (5 : Int32) = nI 5 := rfl
theorem i_6 : (6 : Int32) = nI 6 := rfl
theorem i_7 : (7 : Int32) = nI 7 := rfl
theorem i_8 : (8 : Int32) = nI 8 := rfl
theorem i_9 : (9 : Int32) = nI 9 := rfl
theorem i_10 : (10 : Int32) = nI 10 := rfl
theorem i_11 : (11 : Int32) = nI 11 := rfl
theorem i_12 : (12 : Int32) = nI 12 := rfl
theorem i_13 : (13 : Int32) = nI 13 := rfl
theorem i_14 : (14 : Int32) = nI 14 := rfl
theorem i_15 : (15 : Int32) = nI 15 := rfl
theorem i_16 : (16 : Int32) = nI 16 := rfl
theorem i_17 : (17 : Int32) = nI 17 := rfl
theorem i_18 : (18 : Int32) = nI 18 := rfl
theorem i_19 : (19 : Int32) = nI 19 := rfl
theorem i_20 : (20 : Int32) = nI 20 := rfl
theorem i_21 : (21 : Int32) = nI 21 := rfl
theorem i_27 : (27 : Int32) = nI 27 := rfl
theorem i_28 : (28 : Int32) = nI 28 := rfl
theorem i_31 : (31 : Int32) = nI 31 := rfl
theorem i_40 : (40 : Int32) = nI 40 := rfl
theorem i_48 : (48 : Int32) = nI 48 := rfl
theorem i_64 : (64 : Int32) = nI 64 := rfl
theorem i_70 : (70 : Int32) = nI 70 := rfl
theorem i_72 : (72 : Int32) = nI 72 := rfl
theorem i_82 : (82 : Int32) = nI 82 := rfl
theorem i_100 : (100 : Int32) = nI 100 := rfl
theorem i_127 : (127 : Int32) = nI 127 := rfl
theorem i_255 : (255 : Int32) = nI 255 := rfl
theorem i_256 : (256 : Int32) = nI 256 := rfl
theorem i_273 : (273 : Int32) = nI 273 := rfl
theorem i_999 : (999 : Int32) = nI 999 := rfl
theorem i_1000 : (1000 : Int32) = nI 1000 := rfl
theorem i_9999 : (9999 : Int32) = nI 9999 := rfl
theorem al_0 : alen 0 = 64 := rfl
theorem al_1 : alen 1 = 4 := rfl
theorem al_2 : alen 2 = 12 := rfl
theorem al_3 : alen 3 = 4 := rfl
theorem al_4 : alen 4 = 4 := rfl
theorem al_5 : alen 5 = 4 := rfl
theorem al_6 : alen 6 = 15 := rfl
theorem al_7 : alen 7 = 5 := rfl
theorem al_8 : alen 8 = 20 := rfl
theorem al_9 : alen 9 = 20 := rfl
theorem al_10 : alen 10 = 6 := rfl
theorem al_11 : alen 11 = 6 := rfl
theorem al_12 : alen 12 = 20 := rfl
theorem al_13 : alen 13 = 5 := rfl
theorem al_14 : alen 14 = 4 := rfl
theorem al_15 : alen 15 = 5 := rfl
theorem al_16 : alen 16 = 5 := rfl
theorem al_17 : alen 17 = 5 := rfl
theorem al_18 : alen 18 = 5 := rfl
theorem al_19 : alen 19 = 5 := rfl
theorem al_20 : alen 20 = 5 := rfl
theorem al_21 : alen 21 = 5 := rfl
theorem al_22 : alen 22 = 5 := rfl
theorem al_23 : alen 23 = 5 := rfl
theorem al_24 : alen 24 = 5 := rfl
theorem al_25 : alen 25 = 5 := rfl
theorem al_26 : alen 26 = 5 := rfl
theorem al_27 : alen 27 = 5 := rfl
theorem al_28 : alen 28 = 5 := rfl
theorem al_29 : alen 29 = 5 := rfl
theorem al_30 : alen 30 = 5 := rfl
theorem al_31 : alen 31 = 5 := rfl
theorem al_32 : alen 32 = 5 := rfl
theorem al_33 : alen 33 = 5 := rfl
theorem al_34 : alen 34 = 5 := rfl
theorem al_35 : alen 35 = 5 := rfl
theorem al_36 : alen 36 = 15 := rfl
theorem al_37 : alen 37 = 15 := rfl
theorem al_38 : alen 38 = 15 := rfl
theorem al_39 : alen 39 = 15 := rfl
theorem al_40 : alen 40 = 15 := rfl
theorem al_41 : alen 41 = 15 := rfl
theorem al_42 : alen 42 = 15 := rfl
theorem al_43 : alen 43 = 15 := rfl
theorem al_44 : alen 44 = 15 := rfl
theorem al_45 : alen 45 = 15 := rfl
theorem al_46 : alen 46 = 15 := rfl
theorem al_47 : alen 47 = 15 := rfl
theorem al_48 : alen 48 = 15 := rfl
theorem al_49 : alen 49 = 15 := rfl
theorem al_50 : alen 50 = 15 := rfl
theorem al_51 : alen 51 = 15 := rfl
theorem al_52 : alen 52 = 15 := rfl
theorem al_53 : alen 53 = 64 := rfl
theorem al_54 : alen 54 = 28 := rfl
theorem al_55 : alen 55 = 20 := rfl
theorem al_56 : alen 56 = 28 := rfl
theorem al_57 : alen 57 = 20 := rfl
theorem al_58 : alen 58 = 21 := rfl
theorem al_59 : alen 59 = 294 := rfl
theorem al_60 : alen 60 = 42 := rfl
theorem al_61 : alen 61 = 6 := rfl
theorem al_62 : alen 62 = 6 := rfl
theorem al_63 : alen 63 = 5 := rfl
theorem al_64 : alen 64 = 5 := rfl
theorem al_65 : alen 65 = 5 := rfl
theorem al_66 : alen 66 = 15 := rfl
theorem al_67 : alen 67 = 2 := rfl
theorem al_w {k : Nat} (h : k < 21) : alen (15 + k) = 5 := by unfold alen; rw [if_neg (by omega), if_pos (by omega)]
theorem al_d {k : Nat} (h : k < 17) : alen (36 + k) = 15 := by unfold alen; rw [if_neg (by omega), if_neg (by omega), if_pos (by omega)]
theorem rdA_ok {σ : Mem} {n i : Nat} (h : i < alen n) (hb : i < 2 ^ 31) : rdA σ n (nI i) = some (σ.2.1 n i) := by
  unfold rdA; rw [nI_clamp hb, if_neg (by have := nI_pos hb; rintro (h1 | h1); exact this h1; omega)]
theorem wrA_ok {σ : Mem} {n i : Nat} {v : Int32} (h : i < alen n) (hb : i < 2 ^ 31) : wrA σ n (nI i) v = some (sA σ n i v) := by
  unfold wrA; rw [nI_clamp hb, if_neg (by have := nI_pos hb; rintro (h1 | h1); exact this h1; omega)]
theorem alB (n : Nat) : alen n ≤ 294 := by
  unfold alen
  split
  · rcases n with _|_|_|_|_|_|_|_|_|_|_|_|_|_|_|n <;> first | omega | (simp; done) | (simp; omega) | decide
  · split
    · omega
    · split
      · omega
      · generalize n - 53 = m
        rcases m with _|_|_|_|_|_|_|_|_|_|_|_|_|_|_|m <;> first | decide | (simp; done) | (simp; omega)
theorem at_ok {σ : Mem} {n i : Nat} (h : i < alen n) : F_X10_at n (nI i) σ = some (σ.2.1 n i) := by
  have h2 := alB n
  unfold F_X10_at
  rw [if_neg (nI_pos (by omega)), if_neg (nI_ge h (by omega)), rdA_ok h (by omega)]
  rfl
theorem at_out {σ : Mem} {n i : Nat} (h : alen n ≤ i) (hb : i < 2 ^ 31) : F_X10_at n (nI i) σ = some 0 := by
  unfold F_X10_at
  rw [if_neg (nI_pos (by omega)), if_pos (nI_le h (by omega))]
theorem put_ok {σ : Mem} {n i : Nat} {v : Int32} (h : i < alen n) : F_X10_put n (nI i) v σ = some (sA σ n i v) := by
  have h2 := alB n
  unfold F_X10_put
  rw [if_neg (nI_pos (by omega)), if_neg (nI_ge h (by omega)), wrA_ok h (by omega)]
  rfl

theorem rd_0 {σ : Mem} {i : Nat} (h : i < 64) : rdA σ 0 (nI i) = some (σ.2.1 0 i) := rdA_ok (n := 0) h (by omega)
theorem wr_0 {σ : Mem} {i : Nat} {v : Int32} (h : i < 64) : wrA σ 0 (nI i) v = some (sA σ 0 i v) := wrA_ok (n := 0) h (by omega)
theorem at_0 {σ : Mem} {i : Nat} (h : i < 64) : F_X10_at 0 (nI i) σ = some (σ.2.1 0 i) := at_ok (n := 0) h
theorem put_0 {σ : Mem} {i : Nat} {v : Int32} (h : i < 64) : F_X10_put 0 (nI i) v σ = some (sA σ 0 i v) := put_ok (n := 0) h
theorem rd_1 {σ : Mem} {i : Nat} (h : i < 4) : rdA σ 1 (nI i) = some (σ.2.1 1 i) := rdA_ok (n := 1) h (by omega)
theorem wr_1 {σ : Mem} {i : Nat} {v : Int32} (h : i < 4) : wrA σ 1 (nI i) v = some (sA σ 1 i v) := wrA_ok (n := 1) h (by omega)
theorem at_1 {σ : Mem} {i : Nat} (h : i < 4) : F_X10_at 1 (nI i) σ = some (σ.2.1 1 i) := at_ok (n := 1) h
theorem put_1 {σ : Mem} {i : Nat} {v : Int32} (h : i < 4) : F_X10_put 1 (nI i) v σ = some (sA σ 1 i v) := put_ok (n := 1) h
theorem rd_2 {σ : Mem} {i : Nat} (h : i < 12) : rdA σ 2 (nI i) = some (σ.2.1 2 i) := rdA_ok (n := 2) h (by omega)
theorem wr_2 {σ : Mem} {i : Nat} {v : Int32} (h : i < 12) : wrA σ 2 (nI i) v = some (sA σ 2 i v) := wrA_ok (n := 2) h (by omega)
theorem at_2 {σ : Mem} {i : Nat} (h : i < 12) : F_X10_at 2 (nI i) σ = some (σ.2.1 2 i) := at_ok (n := 2) h
theorem put_2 {σ : Mem} {i : Nat} {v : Int32} (h : i < 12) : F_X10_put 2 (nI i) v σ = some (sA σ 2 i v) := put_ok (n := 2) h
theorem rd_3 {σ : Mem} {i : Nat} (h : i < 4) : rdA σ 3 (nI i) = some (σ.2.1 3 i) := rdA_ok (n := 3) h (by omega)
theorem wr_3 {σ : Mem} {i : Nat} {v : Int32} (h : i < 4) : wrA σ 3 (nI i) v = some (sA σ 3 i v) := wrA_ok (n := 3) h (by omega)
theorem at_3 {σ : Mem} {i : Nat} (h : i < 4) : F_X10_at 3 (nI i) σ = some (σ.2.1 3 i) := at_ok (n := 3) h
theorem put_3 {σ : Mem} {i : Nat} {v : Int32} (h : i < 4) : F_X10_put 3 (nI i) v σ = some (sA σ 3 i v) := put_ok (n := 3) h
theorem rd_4 {σ : Mem} {i : Nat} (h : i < 4) : rdA σ 4 (nI i) = some (σ.2.1 4 i) := rdA_ok (n := 4) h (by omega)
theorem wr_4 {σ : Mem} {i : Nat} {v : Int32} (h : i < 4) : wrA σ 4 (nI i) v = some (sA σ 4 i v) := wrA_ok (n := 4) h (by omega)
theorem at_4 {σ : Mem} {i : Nat} (h : i < 4) : F_X10_at 4 (nI i) σ = some (σ.2.1 4 i) := at_ok (n := 4) h
theorem put_4 {σ : Mem} {i : Nat} {v : Int32} (h : i < 4) : F_X10_put 4 (nI i) v σ = some (sA σ 4 i v) := put_ok (n := 4) h
theorem rd_5 {σ : Mem} {i : Nat} (h : i < 4) : rdA σ 5 (nI i) = some (σ.2.1 5 i) := rdA_ok (n := 5) h (by omega)
theorem wr_5 {σ : Mem} {i : Nat} {v : Int32} (h : i < 4) : wrA σ 5 (nI i) v = some (sA σ 5 i v) := wrA_ok (n := 5) h (by omega)
theorem at_5 {σ : Mem} {i : Nat} (h : i < 4) : F_X10_at 5 (nI i) σ = some (σ.2.1 5 i) := at_ok (n := 5) h
theorem put_5 {σ : Mem} {i : Nat} {v : Int32} (h : i < 4) : F_X10_put 5 (nI i) v σ = some (sA σ 5 i v) := put_ok (n := 5) h
theorem rd_6 {σ : Mem} {i : Nat} (h : i < 15) : rdA σ 6 (nI i) = some (σ.2.1 6 i) := rdA_ok (n := 6) h (by omega)
theorem wr_6 {σ : Mem} {i : Nat} {v : Int32} (h : i < 15) : wrA σ 6 (nI i) v = some (sA σ 6 i v) := wrA_ok (n := 6) h (by omega)
theorem at_6 {σ : Mem} {i : Nat} (h : i < 15) : F_X10_at 6 (nI i) σ = some (σ.2.1 6 i) := at_ok (n := 6) h
theorem put_6 {σ : Mem} {i : Nat} {v : Int32} (h : i < 15) : F_X10_put 6 (nI i) v σ = some (sA σ 6 i v) := put_ok (n := 6) h
theorem rd_7 {σ : Mem} {i : Nat} (h : i < 5) : rdA σ 7 (nI i) = some (σ.2.1 7 i) := rdA_ok (n := 7) h (by omega)
theorem wr_7 {σ : Mem} {i : Nat} {v : Int32} (h : i < 5) : wrA σ 7 (nI i) v = some (sA σ 7 i v) := wrA_ok (n := 7) h (by omega)
theorem at_7 {σ : Mem} {i : Nat} (h : i < 5) : F_X10_at 7 (nI i) σ = some (σ.2.1 7 i) := at_ok (n := 7) h
theorem put_7 {σ : Mem} {i : Nat} {v : Int32} (h : i < 5) : F_X10_put 7 (nI i) v σ = some (sA σ 7 i v) := put_ok (n := 7) h
theorem rd_8 {σ : Mem} {i : Nat} (h : i < 20) : rdA σ 8 (nI i) = some (σ.2.1 8 i) := rdA_ok (n := 8) h (by omega)
theorem wr_8 {σ : Mem} {i : Nat} {v : Int32} (h : i < 20) : wrA σ 8 (nI i) v = some (sA σ 8 i v) := wrA_ok (n := 8) h (by omega)
theorem at_8 {σ : Mem} {i : Nat} (h : i < 20) : F_X10_at 8 (nI i) σ = some (σ.2.1 8 i) := at_ok (n := 8) h
theorem put_8 {σ : Mem} {i : Nat} {v : Int32} (h : i < 20) : F_X10_put 8 (nI i) v σ = some (sA σ 8 i v) := put_ok (n := 8) h
theorem rd_9 {σ : Mem} {i : Nat} (h : i < 20) : rdA σ 9 (nI i) = some (σ.2.1 9 i) := rdA_ok (n := 9) h (by omega)
theorem wr_9 {σ : Mem} {i : Nat} {v : Int32} (h : i < 20) : wrA σ 9 (nI i) v = some (sA σ 9 i v) := wrA_ok (n := 9) h (by omega)
theorem at_9 {σ : Mem} {i : Nat} (h : i < 20) : F_X10_at 9 (nI i) σ = some (σ.2.1 9 i) := at_ok (n := 9) h
theorem put_9 {σ : Mem} {i : Nat} {v : Int32} (h : i < 20) : F_X10_put 9 (nI i) v σ = some (sA σ 9 i v) := put_ok (n := 9) h
theorem rd_10 {σ : Mem} {i : Nat} (h : i < 6) : rdA σ 10 (nI i) = some (σ.2.1 10 i) := rdA_ok (n := 10) h (by omega)
theorem wr_10 {σ : Mem} {i : Nat} {v : Int32} (h : i < 6) : wrA σ 10 (nI i) v = some (sA σ 10 i v) := wrA_ok (n := 10) h (by omega)
theorem at_10 {σ : Mem} {i : Nat} (h : i < 6) : F_X10_at 10 (nI i) σ = some (σ.2.1 10 i) := at_ok (n := 10) h
theorem put_10 {σ : Mem} {i : Nat} {v : Int32} (h : i < 6) : F_X10_put 10 (nI i) v σ = some (sA σ 10 i v) := put_ok (n := 10) h
theorem rd_11 {σ : Mem} {i : Nat} (h : i < 6) : rdA σ 11 (nI i) = some (σ.2.1 11 i) := rdA_ok (n := 11) h (by omega)
theorem wr_11 {σ : Mem} {i : Nat} {v : Int32} (h : i < 6) : wrA σ 11 (nI i) v = some (sA σ 11 i v) := wrA_ok (n := 11) h (by omega)
theorem at_11 {σ : Mem} {i : Nat} (h : i < 6) : F_X10_at 11 (nI i) σ = some (σ.2.1 11 i) := at_ok (n := 11) h
theorem put_11 {σ : Mem} {i : Nat} {v : Int32} (h : i < 6) : F_X10_put 11 (nI i) v σ = some (sA σ 11 i v) := put_ok (n := 11) h
theorem rd_12 {σ : Mem} {i : Nat} (h : i < 20) : rdA σ 12 (nI i) = some (σ.2.1 12 i) := rdA_ok (n := 12) h (by omega)
theorem wr_12 {σ : Mem} {i : Nat} {v : Int32} (h : i < 20) : wrA σ 12 (nI i) v = some (sA σ 12 i v) := wrA_ok (n := 12) h (by omega)
theorem at_12 {σ : Mem} {i : Nat} (h : i < 20) : F_X10_at 12 (nI i) σ = some (σ.2.1 12 i) := at_ok (n := 12) h
theorem put_12 {σ : Mem} {i : Nat} {v : Int32} (h : i < 20) : F_X10_put 12 (nI i) v σ = some (sA σ 12 i v) := put_ok (n := 12) h
theorem rd_13 {σ : Mem} {i : Nat} (h : i < 5) : rdA σ 13 (nI i) = some (σ.2.1 13 i) := rdA_ok (n := 13) h (by omega)
theorem wr_13 {σ : Mem} {i : Nat} {v : Int32} (h : i < 5) : wrA σ 13 (nI i) v = some (sA σ 13 i v) := wrA_ok (n := 13) h (by omega)
theorem at_13 {σ : Mem} {i : Nat} (h : i < 5) : F_X10_at 13 (nI i) σ = some (σ.2.1 13 i) := at_ok (n := 13) h
theorem put_13 {σ : Mem} {i : Nat} {v : Int32} (h : i < 5) : F_X10_put 13 (nI i) v σ = some (sA σ 13 i v) := put_ok (n := 13) h
theorem rd_14 {σ : Mem} {i : Nat} (h : i < 4) : rdA σ 14 (nI i) = some (σ.2.1 14 i) := rdA_ok (n := 14) h (by omega)
theorem wr_14 {σ : Mem} {i : Nat} {v : Int32} (h : i < 4) : wrA σ 14 (nI i) v = some (sA σ 14 i v) := wrA_ok (n := 14) h (by omega)
theorem at_14 {σ : Mem} {i : Nat} (h : i < 4) : F_X10_at 14 (nI i) σ = some (σ.2.1 14 i) := at_ok (n := 14) h
theorem put_14 {σ : Mem} {i : Nat} {v : Int32} (h : i < 4) : F_X10_put 14 (nI i) v σ = some (sA σ 14 i v) := put_ok (n := 14) h
theorem rd_15 {σ : Mem} {i : Nat} (h : i < 5) : rdA σ 15 (nI i) = some (σ.2.1 15 i) := rdA_ok (n := 15) h (by omega)
theorem wr_15 {σ : Mem} {i : Nat} {v : Int32} (h : i < 5) : wrA σ 15 (nI i) v = some (sA σ 15 i v) := wrA_ok (n := 15) h (by omega)
theorem at_15 {σ : Mem} {i : Nat} (h : i < 5) : F_X10_at 15 (nI i) σ = some (σ.2.1 15 i) := at_ok (n := 15) h
theorem put_15 {σ : Mem} {i : Nat} {v : Int32} (h : i < 5) : F_X10_put 15 (nI i) v σ = some (sA σ 15 i v) := put_ok (n := 15) h
theorem rd_16 {σ : Mem} {i : Nat} (h : i < 5) : rdA σ 16 (nI i) = some (σ.2.1 16 i) := rdA_ok (n := 16) h (by omega)
theorem wr_16 {σ : Mem} {i : Nat} {v : Int32} (h : i < 5) : wrA σ 16 (nI i) v = some (sA σ 16 i v) := wrA_ok (n := 16) h (by omega)
theorem at_16 {σ : Mem} {i : Nat} (h : i < 5) : F_X10_at 16 (nI i) σ = some (σ.2.1 16 i) := at_ok (n := 16) h
theorem put_16 {σ : Mem} {i : Nat} {v : Int32} (h : i < 5) : F_X10_put 16 (nI i) v σ = some (sA σ 16 i v) := put_ok (n := 16) h
theorem rd_17 {σ : Mem} {i : Nat} (h : i < 5) : rdA σ 17 (nI i) = some (σ.2.1 17 i) := rdA_ok (n := 17) h (by omega)
theorem wr_17 {σ : Mem} {i : Nat} {v : Int32} (h : i < 5) : wrA σ 17 (nI i) v = some (sA σ 17 i v) := wrA_ok (n := 17) h (by omega)
theorem at_17 {σ : Mem} {i : Nat} (h : i < 5) : F_X10_at 17 (nI i) σ = some (σ.2.1 17 i) := at_ok (n := 17) h
theorem put_17 {σ : Mem} {i : Nat} {v : Int32} (h : i < 5) : F_X10_put 17 (nI i) v σ = some (sA σ 17 i v) := put_ok (n := 17) h
theorem rd_18 {σ : Mem} {i : Nat} (h : i < 5) : rdA σ 18 (nI i) = some (σ.2.1 18 i) := rdA_ok (n := 18) h (by omega)
theorem wr_18 {σ : Mem} {i : Nat} {v : Int32} (h : i < 5) : wrA σ 18 (nI i) v = some (sA σ 18 i v) := wrA_ok (n := 18) h (by omega)
theorem at_18 {σ : Mem} {i : Nat} (h : i < 5) : F_X10_at 18 (nI i) σ = some (σ.2.1 18 i) := at_ok (n := 18) h
theorem put_18 {σ : Mem} {i : Nat} {v : Int32} (h : i < 5) : F_X10_put 18 (nI i) v σ = some (sA σ 18 i v) := put_ok (n := 18) h
theorem rd_19 {σ : Mem} {i : Nat} (h : i < 5) : rdA σ 19 (nI i) = some (σ.2.1 19 i) := rdA_ok (n := 19) h (by omega)
theorem wr_19 {σ : Mem} {i : Nat} {v : Int32} (h : i < 5) : wrA σ 19 (nI i) v = some (sA σ 19 i v) := wrA_ok (n := 19) h (by omega)
theorem at_19 {σ : Mem} {i : Nat} (h : i < 5) : F_X10_at 19 (nI i) σ = some (σ.2.1 19 i) := at_ok (n := 19) h
theorem put_19 {σ : Mem} {i : Nat} {v : Int32} (h : i < 5) : F_X10_put 19 (nI i) v σ = some (sA σ 19 i v) := put_ok (n := 19) h
theorem rd_20 {σ : Mem} {i : Nat} (h : i < 5) : rdA σ 20 (nI i) = some (σ.2.1 20 i) := rdA_ok (n := 20) h (by omega)
theorem wr_20 {σ : Mem} {i : Nat} {v : Int32} (h : i < 5) : wrA σ 20 (nI i) v = some (sA σ 20 i v) := wrA_ok (n := 20) h (by omega)
theorem at_20 {σ : Mem} {i : Nat} (h : i < 5) : F_X10_at 20 (nI i) σ = some (σ.2.1 20 i) := at_ok (n := 20) h
theorem put_20 {σ : Mem} {i : Nat} {v : Int32} (h : i < 5) : F_X10_put 20 (nI i) v σ = some (sA σ 20 i v) := put_ok (n := 20) h
theorem rd_21 {σ : Mem} {i : Nat} (h : i < 5) : rdA σ 21 (nI i) = some (σ.2.1 21 i) := rdA_ok (n := 21) h (by omega)
theorem wr_21 {σ : Mem} {i : Nat} {v : Int32} (h : i < 5) : wrA σ 21 (nI i) v = some (sA σ 21 i v) := wrA_ok (n := 21) h (by omega)
theorem at_21 {σ : Mem} {i : Nat} (h : i < 5) : F_X10_at 21 (nI i) σ = some (σ.2.1 21 i) := at_ok (n := 21) h
theorem put_21 {σ : Mem} {i : Nat} {v : Int32} (h : i < 5) : F_X10_put 21 (nI i) v σ = some (sA σ 21 i v) := put_ok (n := 21) h
theorem rd_22 {σ : Mem} {i : Nat} (h : i < 5) : rdA σ 22 (nI i) = some (σ.2.1 22 i) := rdA_ok (n := 22) h (by omega)
theorem wr_22 {σ : Mem} {i : Nat} {v : Int32} (h : i < 5) : wrA σ 22 (nI i) v = some (sA σ 22 i v) := wrA_ok (n := 22) h (by omega)
theorem at_22 {σ : Mem} {i : Nat} (h : i < 5) : F_X10_at 22 (nI i) σ = some (σ.2.1 22 i) := at_ok (n := 22) h
theorem put_22 {σ : Mem} {i : Nat} {v : Int32} (h : i < 5) : F_X10_put 22 (nI i) v σ = some (sA σ 22 i v) := put_ok (n := 22) h
theorem rd_23 {σ : Mem} {i : Nat} (h : i < 5) : rdA σ 23 (nI i) = some (σ.2.1 23 i) := rdA_ok (n := 23) h (by omega)
theorem wr_23 {σ : Mem} {i : Nat} {v : Int32} (h : i < 5) : wrA σ 23 (nI i) v = some (sA σ 23 i v) := wrA_ok (n := 23) h (by omega)
theorem at_23 {σ : Mem} {i : Nat} (h : i < 5) : F_X10_at 23 (nI i) σ = some (σ.2.1 23 i) := at_ok (n := 23) h
theorem put_23 {σ : Mem} {i : Nat} {v : Int32} (h : i < 5) : F_X10_put 23 (nI i) v σ = some (sA σ 23 i v) := put_ok (n := 23) h
theorem rd_24 {σ : Mem} {i : Nat} (h : i < 5) : rdA σ 24 (nI i) = some (σ.2.1 24 i) := rdA_ok (n := 24) h (by omega)
theorem wr_24 {σ : Mem} {i : Nat} {v : Int32} (h : i < 5) : wrA σ 24 (nI i) v = some (sA σ 24 i v) := wrA_ok (n := 24) h (by omega)
theorem at_24 {σ : Mem} {i : Nat} (h : i < 5) : F_X10_at 24 (nI i) σ = some (σ.2.1 24 i) := at_ok (n := 24) h
theorem put_24 {σ : Mem} {i : Nat} {v : Int32} (h : i < 5) : F_X10_put 24 (nI i) v σ = some (sA σ 24 i v) := put_ok (n := 24) h
theorem rd_25 {σ : Mem} {i : Nat} (h : i < 5) : rdA σ 25 (nI i) = some (σ.2.1 25 i) := rdA_ok (n := 25) h (by omega)
theorem wr_25 {σ : Mem} {i : Nat} {v : Int32} (h : i < 5) : wrA σ 25 (nI i) v = some (sA σ 25 i v) := wrA_ok (n := 25) h (by omega)
theorem at_25 {σ : Mem} {i : Nat} (h : i < 5) : F_X10_at 25 (nI i) σ = some (σ.2.1 25 i) := at_ok (n := 25) h
theorem put_25 {σ : Mem} {i : Nat} {v : Int32} (h : i < 5) : F_X10_put 25 (nI i) v σ = some (sA σ 25 i v) := put_ok (n := 25) h
theorem rd_26 {σ : Mem} {i : Nat} (h : i < 5) : rdA σ 26 (nI i) = some (σ.2.1 26 i) := rdA_ok (n := 26) h (by omega)
theorem wr_26 {σ : Mem} {i : Nat} {v : Int32} (h : i < 5) : wrA σ 26 (nI i) v = some (sA σ 26 i v) := wrA_ok (n := 26) h (by omega)
theorem at_26 {σ : Mem} {i : Nat} (h : i < 5) : F_X10_at 26 (nI i) σ = some (σ.2.1 26 i) := at_ok (n := 26) h
theorem put_26 {σ : Mem} {i : Nat} {v : Int32} (h : i < 5) : F_X10_put 26 (nI i) v σ = some (sA σ 26 i v) := put_ok (n := 26) h
theorem rd_27 {σ : Mem} {i : Nat} (h : i < 5) : rdA σ 27 (nI i) = some (σ.2.1 27 i) := rdA_ok (n := 27) h (by omega)
theorem wr_27 {σ : Mem} {i : Nat} {v : Int32} (h : i < 5) : wrA σ 27 (nI i) v = some (sA σ 27 i v) := wrA_ok (n := 27) h (by omega)
theorem at_27 {σ : Mem} {i : Nat} (h : i < 5) : F_X10_at 27 (nI i) σ = some (σ.2.1 27 i) := at_ok (n := 27) h
theorem put_27 {σ : Mem} {i : Nat} {v : Int32} (h : i < 5) : F_X10_put 27 (nI i) v σ = some (sA σ 27 i v) := put_ok (n := 27) h
theorem rd_28 {σ : Mem} {i : Nat} (h : i < 5) : rdA σ 28 (nI i) = some (σ.2.1 28 i) := rdA_ok (n := 28) h (by omega)
theorem wr_28 {σ : Mem} {i : Nat} {v : Int32} (h : i < 5) : wrA σ 28 (nI i) v = some (sA σ 28 i v) := wrA_ok (n := 28) h (by omega)
theorem at_28 {σ : Mem} {i : Nat} (h : i < 5) : F_X10_at 28 (nI i) σ = some (σ.2.1 28 i) := at_ok (n := 28) h
theorem put_28 {σ : Mem} {i : Nat} {v : Int32} (h : i < 5) : F_X10_put 28 (nI i) v σ = some (sA σ 28 i v) := put_ok (n := 28) h
theorem rd_29 {σ : Mem} {i : Nat} (h : i < 5) : rdA σ 29 (nI i) = some (σ.2.1 29 i) := rdA_ok (n := 29) h (by omega)
theorem wr_29 {σ : Mem} {i : Nat} {v : Int32} (h : i < 5) : wrA σ 29 (nI i) v = some (sA σ 29 i v) := wrA_ok (n := 29) h (by omega)
theorem at_29 {σ : Mem} {i : Nat} (h : i < 5) : F_X10_at 29 (nI i) σ = some (σ.2.1 29 i) := at_ok (n := 29) h
theorem put_29 {σ : Mem} {i : Nat} {v : Int32} (h : i < 5) : F_X10_put 29 (nI i) v σ = some (sA σ 29 i v) := put_ok (n := 29) h
theorem rd_30 {σ : Mem} {i : Nat} (h : i < 5) : rdA σ 30 (nI i) = some (σ.2.1 30 i) := rdA_ok (n := 30) h (by omega)
theorem wr_30 {σ : Mem} {i : Nat} {v : Int32} (h : i < 5) : wrA σ 30 (nI i) v = some (sA σ 30 i v) := wrA_ok (n := 30) h (by omega)
theorem at_30 {σ : Mem} {i : Nat} (h : i < 5) : F_X10_at 30 (nI i) σ = some (σ.2.1 30 i) := at_ok (n := 30) h
theorem put_30 {σ : Mem} {i : Nat} {v : Int32} (h : i < 5) : F_X10_put 30 (nI i) v σ = some (sA σ 30 i v) := put_ok (n := 30) h
theorem rd_31 {σ : Mem} {i : Nat} (h : i < 5) : rdA σ 31 (nI i) = some (σ.2.1 31 i) := rdA_ok (n := 31) h (by omega)
theorem wr_31 {σ : Mem} {i : Nat} {v : Int32} (h : i < 5) : wrA σ 31 (nI i) v = some (sA σ 31 i v) := wrA_ok (n := 31) h (by omega)
theorem at_31 {σ : Mem} {i : Nat} (h : i < 5) : F_X10_at 31 (nI i) σ = some (σ.2.1 31 i) := at_ok (n := 31) h
theorem put_31 {σ : Mem} {i : Nat} {v : Int32} (h : i < 5) : F_X10_put 31 (nI i) v σ = some (sA σ 31 i v) := put_ok (n := 31) h
theorem rd_32 {σ : Mem} {i : Nat} (h : i < 5) : rdA σ 32 (nI i) = some (σ.2.1 32 i) := rdA_ok (n := 32) h (by omega)
theorem wr_32 {σ : Mem} {i : Nat} {v : Int32} (h : i < 5) : wrA σ 32 (nI i) v = some (sA σ 32 i v) := wrA_ok (n := 32) h (by omega)
theorem at_32 {σ : Mem} {i : Nat} (h : i < 5) : F_X10_at 32 (nI i) σ = some (σ.2.1 32 i) := at_ok (n := 32) h
theorem put_32 {σ : Mem} {i : Nat} {v : Int32} (h : i < 5) : F_X10_put 32 (nI i) v σ = some (sA σ 32 i v) := put_ok (n := 32) h
theorem rd_33 {σ : Mem} {i : Nat} (h : i < 5) : rdA σ 33 (nI i) = some (σ.2.1 33 i) := rdA_ok (n := 33) h (by omega)
theorem wr_33 {σ : Mem} {i : Nat} {v : Int32} (h : i < 5) : wrA σ 33 (nI i) v = some (sA σ 33 i v) := wrA_ok (n := 33) h (by omega)
theorem at_33 {σ : Mem} {i : Nat} (h : i < 5) : F_X10_at 33 (nI i) σ = some (σ.2.1 33 i) := at_ok (n := 33) h
theorem put_33 {σ : Mem} {i : Nat} {v : Int32} (h : i < 5) : F_X10_put 33 (nI i) v σ = some (sA σ 33 i v) := put_ok (n := 33) h
theorem rd_34 {σ : Mem} {i : Nat} (h : i < 5) : rdA σ 34 (nI i) = some (σ.2.1 34 i) := rdA_ok (n := 34) h (by omega)
theorem wr_34 {σ : Mem} {i : Nat} {v : Int32} (h : i < 5) : wrA σ 34 (nI i) v = some (sA σ 34 i v) := wrA_ok (n := 34) h (by omega)
theorem at_34 {σ : Mem} {i : Nat} (h : i < 5) : F_X10_at 34 (nI i) σ = some (σ.2.1 34 i) := at_ok (n := 34) h
theorem put_34 {σ : Mem} {i : Nat} {v : Int32} (h : i < 5) : F_X10_put 34 (nI i) v σ = some (sA σ 34 i v) := put_ok (n := 34) h
theorem rd_35 {σ : Mem} {i : Nat} (h : i < 5) : rdA σ 35 (nI i) = some (σ.2.1 35 i) := rdA_ok (n := 35) h (by omega)
theorem wr_35 {σ : Mem} {i : Nat} {v : Int32} (h : i < 5) : wrA σ 35 (nI i) v = some (sA σ 35 i v) := wrA_ok (n := 35) h (by omega)
theorem at_35 {σ : Mem} {i : Nat} (h : i < 5) : F_X10_at 35 (nI i) σ = some (σ.2.1 35 i) := at_ok (n := 35) h
theorem put_35 {σ : Mem} {i : Nat} {v : Int32} (h : i < 5) : F_X10_put 35 (nI i) v σ = some (sA σ 35 i v) := put_ok (n := 35) h
theorem rd_36 {σ : Mem} {i : Nat} (h : i < 15) : rdA σ 36 (nI i) = some (σ.2.1 36 i) := rdA_ok (n := 36) h (by omega)
theorem wr_36 {σ : Mem} {i : Nat} {v : Int32} (h : i < 15) : wrA σ 36 (nI i) v = some (sA σ 36 i v) := wrA_ok (n := 36) h (by omega)
theorem at_36 {σ : Mem} {i : Nat} (h : i < 15) : F_X10_at 36 (nI i) σ = some (σ.2.1 36 i) := at_ok (n := 36) h
theorem put_36 {σ : Mem} {i : Nat} {v : Int32} (h : i < 15) : F_X10_put 36 (nI i) v σ = some (sA σ 36 i v) := put_ok (n := 36) h
theorem rd_37 {σ : Mem} {i : Nat} (h : i < 15) : rdA σ 37 (nI i) = some (σ.2.1 37 i) := rdA_ok (n := 37) h (by omega)
theorem wr_37 {σ : Mem} {i : Nat} {v : Int32} (h : i < 15) : wrA σ 37 (nI i) v = some (sA σ 37 i v) := wrA_ok (n := 37) h (by omega)
theorem at_37 {σ : Mem} {i : Nat} (h : i < 15) : F_X10_at 37 (nI i) σ = some (σ.2.1 37 i) := at_ok (n := 37) h
theorem put_37 {σ : Mem} {i : Nat} {v : Int32} (h : i < 15) : F_X10_put 37 (nI i) v σ = some (sA σ 37 i v) := put_ok (n := 37) h
theorem rd_38 {σ : Mem} {i : Nat} (h : i < 15) : rdA σ 38 (nI i) = some (σ.2.1 38 i) := rdA_ok (n := 38) h (by omega)
theorem wr_38 {σ : Mem} {i : Nat} {v : Int32} (h : i < 15) : wrA σ 38 (nI i) v = some (sA σ 38 i v) := wrA_ok (n := 38) h (by omega)
theorem at_38 {σ : Mem} {i : Nat} (h : i < 15) : F_X10_at 38 (nI i) σ = some (σ.2.1 38 i) := at_ok (n := 38) h
theorem put_38 {σ : Mem} {i : Nat} {v : Int32} (h : i < 15) : F_X10_put 38 (nI i) v σ = some (sA σ 38 i v) := put_ok (n := 38) h
theorem rd_39 {σ : Mem} {i : Nat} (h : i < 15) : rdA σ 39 (nI i) = some (σ.2.1 39 i) := rdA_ok (n := 39) h (by omega)
theorem wr_39 {σ : Mem} {i : Nat} {v : Int32} (h : i < 15) : wrA σ 39 (nI i) v = some (sA σ 39 i v) := wrA_ok (n := 39) h (by omega)
theorem at_39 {σ : Mem} {i : Nat} (h : i < 15) : F_X10_at 39 (nI i) σ = some (σ.2.1 39 i) := at_ok (n := 39) h
theorem put_39 {σ : Mem} {i : Nat} {v : Int32} (h : i < 15) : F_X10_put 39 (nI i) v σ = some (sA σ 39 i v) := put_ok (n := 39) h
theorem rd_40 {σ : Mem} {i : Nat} (h : i < 15) : rdA σ 40 (nI i) = some (σ.2.1 40 i) := rdA_ok (n := 40) h (by omega)
theorem wr_40 {σ : Mem} {i : Nat} {v : Int32} (h : i < 15) : wrA σ 40 (nI i) v = some (sA σ 40 i v) := wrA_ok (n := 40) h (by omega)
theorem at_40 {σ : Mem} {i : Nat} (h : i < 15) : F_X10_at 40 (nI i) σ = some (σ.2.1 40 i) := at_ok (n := 40) h
theorem put_40 {σ : Mem} {i : Nat} {v : Int32} (h : i < 15) : F_X10_put 40 (nI i) v σ = some (sA σ 40 i v) := put_ok (n := 40) h
theorem rd_41 {σ : Mem} {i : Nat} (h : i < 15) : rdA σ 41 (nI i) = some (σ.2.1 41 i) := rdA_ok (n := 41) h (by omega)
theorem wr_41 {σ : Mem} {i : Nat} {v : Int32} (h : i < 15) : wrA σ 41 (nI i) v = some (sA σ 41 i v) := wrA_ok (n := 41) h (by omega)
theorem at_41 {σ : Mem} {i : Nat} (h : i < 15) : F_X10_at 41 (nI i) σ = some (σ.2.1 41 i) := at_ok (n := 41) h
theorem put_41 {σ : Mem} {i : Nat} {v : Int32} (h : i < 15) : F_X10_put 41 (nI i) v σ = some (sA σ 41 i v) := put_ok (n := 41) h
theorem rd_42 {σ : Mem} {i : Nat} (h : i < 15) : rdA σ 42 (nI i) = some (σ.2.1 42 i) := rdA_ok (n := 42) h (by omega)
theorem wr_42 {σ : Mem} {i : Nat} {v : Int32} (h : i < 15) : wrA σ 42 (nI i) v = some (sA σ 42 i v) := wrA_ok (n := 42) h (by omega)
theorem at_42 {σ : Mem} {i : Nat} (h : i < 15) : F_X10_at 42 (nI i) σ = some (σ.2.1 42 i) := at_ok (n := 42) h
theorem put_42 {σ : Mem} {i : Nat} {v : Int32} (h : i < 15) : F_X10_put 42 (nI i) v σ = some (sA σ 42 i v) := put_ok (n := 42) h
theorem rd_43 {σ : Mem} {i : Nat} (h : i < 15) : rdA σ 43 (nI i) = some (σ.2.1 43 i) := rdA_ok (n := 43) h (by omega)
theorem wr_43 {σ : Mem} {i : Nat} {v : Int32} (h : i < 15) : wrA σ 43 (nI i) v = some (sA σ 43 i v) := wrA_ok (n := 43) h (by omega)
theorem at_43 {σ : Mem} {i : Nat} (h : i < 15) : F_X10_at 43 (nI i) σ = some (σ.2.1 43 i) := at_ok (n := 43) h
theorem put_43 {σ : Mem} {i : Nat} {v : Int32} (h : i < 15) : F_X10_put 43 (nI i) v σ = some (sA σ 43 i v) := put_ok (n := 43) h
theorem rd_44 {σ : Mem} {i : Nat} (h : i < 15) : rdA σ 44 (nI i) = some (σ.2.1 44 i) := rdA_ok (n := 44) h (by omega)
theorem wr_44 {σ : Mem} {i : Nat} {v : Int32} (h : i < 15) : wrA σ 44 (nI i) v = some (sA σ 44 i v) := wrA_ok (n := 44) h (by omega)
theorem at_44 {σ : Mem} {i : Nat} (h : i < 15) : F_X10_at 44 (nI i) σ = some (σ.2.1 44 i) := at_ok (n := 44) h
theorem put_44 {σ : Mem} {i : Nat} {v : Int32} (h : i < 15) : F_X10_put 44 (nI i) v σ = some (sA σ 44 i v) := put_ok (n := 44) h
theorem rd_45 {σ : Mem} {i : Nat} (h : i < 15) : rdA σ 45 (nI i) = some (σ.2.1 45 i) := rdA_ok (n := 45) h (by omega)
theorem wr_45 {σ : Mem} {i : Nat} {v : Int32} (h : i < 15) : wrA σ 45 (nI i) v = some (sA σ 45 i v) := wrA_ok (n := 45) h (by omega)
theorem at_45 {σ : Mem} {i : Nat} (h : i < 15) : F_X10_at 45 (nI i) σ = some (σ.2.1 45 i) := at_ok (n := 45) h
theorem put_45 {σ : Mem} {i : Nat} {v : Int32} (h : i < 15) : F_X10_put 45 (nI i) v σ = some (sA σ 45 i v) := put_ok (n := 45) h
theorem rd_46 {σ : Mem} {i : Nat} (h : i < 15) : rdA σ 46 (nI i) = some (σ.2.1 46 i) := rdA_ok (n := 46) h (by omega)
theorem wr_46 {σ : Mem} {i : Nat} {v : Int32} (h : i < 15) : wrA σ 46 (nI i) v = some (sA σ 46 i v) := wrA_ok (n := 46) h (by omega)
theorem at_46 {σ : Mem} {i : Nat} (h : i < 15) : F_X10_at 46 (nI i) σ = some (σ.2.1 46 i) := at_ok (n := 46) h
theorem put_46 {σ : Mem} {i : Nat} {v : Int32} (h : i < 15) : F_X10_put 46 (nI i) v σ = some (sA σ 46 i v) := put_ok (n := 46) h
theorem rd_47 {σ : Mem} {i : Nat} (h : i < 15) : rdA σ 47 (nI i) = some (σ.2.1 47 i) := rdA_ok (n := 47) h (by omega)
theorem wr_47 {σ : Mem} {i : Nat} {v : Int32} (h : i < 15) : wrA σ 47 (nI i) v = some (sA σ 47 i v) := wrA_ok (n := 47) h (by omega)
theorem at_47 {σ : Mem} {i : Nat} (h : i < 15) : F_X10_at 47 (nI i) σ = some (σ.2.1 47 i) := at_ok (n := 47) h
theorem put_47 {σ : Mem} {i : Nat} {v : Int32} (h : i < 15) : F_X10_put 47 (nI i) v σ = some (sA σ 47 i v) := put_ok (n := 47) h
theorem rd_48 {σ : Mem} {i : Nat} (h : i < 15) : rdA σ 48 (nI i) = some (σ.2.1 48 i) := rdA_ok (n := 48) h (by omega)
theorem wr_48 {σ : Mem} {i : Nat} {v : Int32} (h : i < 15) : wrA σ 48 (nI i) v = some (sA σ 48 i v) := wrA_ok (n := 48) h (by omega)
theorem at_48 {σ : Mem} {i : Nat} (h : i < 15) : F_X10_at 48 (nI i) σ = some (σ.2.1 48 i) := at_ok (n := 48) h
theorem put_48 {σ : Mem} {i : Nat} {v : Int32} (h : i < 15) : F_X10_put 48 (nI i) v σ = some (sA σ 48 i v) := put_ok (n := 48) h
theorem rd_49 {σ : Mem} {i : Nat} (h : i < 15) : rdA σ 49 (nI i) = some (σ.2.1 49 i) := rdA_ok (n := 49) h (by omega)
theorem wr_49 {σ : Mem} {i : Nat} {v : Int32} (h : i < 15) : wrA σ 49 (nI i) v = some (sA σ 49 i v) := wrA_ok (n := 49) h (by omega)
theorem at_49 {σ : Mem} {i : Nat} (h : i < 15) : F_X10_at 49 (nI i) σ = some (σ.2.1 49 i) := at_ok (n := 49) h
theorem put_49 {σ : Mem} {i : Nat} {v : Int32} (h : i < 15) : F_X10_put 49 (nI i) v σ = some (sA σ 49 i v) := put_ok (n := 49) h
theorem rd_50 {σ : Mem} {i : Nat} (h : i < 15) : rdA σ 50 (nI i) = some (σ.2.1 50 i) := rdA_ok (n := 50) h (by omega)
theorem wr_50 {σ : Mem} {i : Nat} {v : Int32} (h : i < 15) : wrA σ 50 (nI i) v = some (sA σ 50 i v) := wrA_ok (n := 50) h (by omega)
theorem at_50 {σ : Mem} {i : Nat} (h : i < 15) : F_X10_at 50 (nI i) σ = some (σ.2.1 50 i) := at_ok (n := 50) h
theorem put_50 {σ : Mem} {i : Nat} {v : Int32} (h : i < 15) : F_X10_put 50 (nI i) v σ = some (sA σ 50 i v) := put_ok (n := 50) h
theorem rd_51 {σ : Mem} {i : Nat} (h : i < 15) : rdA σ 51 (nI i) = some (σ.2.1 51 i) := rdA_ok (n := 51) h (by omega)
theorem wr_51 {σ : Mem} {i : Nat} {v : Int32} (h : i < 15) : wrA σ 51 (nI i) v = some (sA σ 51 i v) := wrA_ok (n := 51) h (by omega)
theorem at_51 {σ : Mem} {i : Nat} (h : i < 15) : F_X10_at 51 (nI i) σ = some (σ.2.1 51 i) := at_ok (n := 51) h
theorem put_51 {σ : Mem} {i : Nat} {v : Int32} (h : i < 15) : F_X10_put 51 (nI i) v σ = some (sA σ 51 i v) := put_ok (n := 51) h
theorem rd_52 {σ : Mem} {i : Nat} (h : i < 15) : rdA σ 52 (nI i) = some (σ.2.1 52 i) := rdA_ok (n := 52) h (by omega)
theorem wr_52 {σ : Mem} {i : Nat} {v : Int32} (h : i < 15) : wrA σ 52 (nI i) v = some (sA σ 52 i v) := wrA_ok (n := 52) h (by omega)
theorem at_52 {σ : Mem} {i : Nat} (h : i < 15) : F_X10_at 52 (nI i) σ = some (σ.2.1 52 i) := at_ok (n := 52) h
theorem put_52 {σ : Mem} {i : Nat} {v : Int32} (h : i < 15) : F_X10_put 52 (nI i) v σ = some (sA σ 52 i v) := put_ok (n := 52) h
theorem rd_53 {σ : Mem} {i : Nat} (h : i < 64) : rdA σ 53 (nI i) = some (σ.2.1 53 i) := rdA_ok (n := 53) h (by omega)
theorem wr_53 {σ : Mem} {i : Nat} {v : Int32} (h : i < 64) : wrA σ 53 (nI i) v = some (sA σ 53 i v) := wrA_ok (n := 53) h (by omega)
theorem at_53 {σ : Mem} {i : Nat} (h : i < 64) : F_X10_at 53 (nI i) σ = some (σ.2.1 53 i) := at_ok (n := 53) h
theorem put_53 {σ : Mem} {i : Nat} {v : Int32} (h : i < 64) : F_X10_put 53 (nI i) v σ = some (sA σ 53 i v) := put_ok (n := 53) h
theorem rd_54 {σ : Mem} {i : Nat} (h : i < 28) : rdA σ 54 (nI i) = some (σ.2.1 54 i) := rdA_ok (n := 54) h (by omega)
theorem wr_54 {σ : Mem} {i : Nat} {v : Int32} (h : i < 28) : wrA σ 54 (nI i) v = some (sA σ 54 i v) := wrA_ok (n := 54) h (by omega)
theorem at_54 {σ : Mem} {i : Nat} (h : i < 28) : F_X10_at 54 (nI i) σ = some (σ.2.1 54 i) := at_ok (n := 54) h
theorem put_54 {σ : Mem} {i : Nat} {v : Int32} (h : i < 28) : F_X10_put 54 (nI i) v σ = some (sA σ 54 i v) := put_ok (n := 54) h
theorem rd_55 {σ : Mem} {i : Nat} (h : i < 20) : rdA σ 55 (nI i) = some (σ.2.1 55 i) := rdA_ok (n := 55) h (by omega)
theorem wr_55 {σ : Mem} {i : Nat} {v : Int32} (h : i < 20) : wrA σ 55 (nI i) v = some (sA σ 55 i v) := wrA_ok (n := 55) h (by omega)
theorem at_55 {σ : Mem} {i : Nat} (h : i < 20) : F_X10_at 55 (nI i) σ = some (σ.2.1 55 i) := at_ok (n := 55) h
theorem put_55 {σ : Mem} {i : Nat} {v : Int32} (h : i < 20) : F_X10_put 55 (nI i) v σ = some (sA σ 55 i v) := put_ok (n := 55) h
theorem rd_56 {σ : Mem} {i : Nat} (h : i < 28) : rdA σ 56 (nI i) = some (σ.2.1 56 i) := rdA_ok (n := 56) h (by omega)
theorem wr_56 {σ : Mem} {i : Nat} {v : Int32} (h : i < 28) : wrA σ 56 (nI i) v = some (sA σ 56 i v) := wrA_ok (n := 56) h (by omega)
theorem at_56 {σ : Mem} {i : Nat} (h : i < 28) : F_X10_at 56 (nI i) σ = some (σ.2.1 56 i) := at_ok (n := 56) h
theorem put_56 {σ : Mem} {i : Nat} {v : Int32} (h : i < 28) : F_X10_put 56 (nI i) v σ = some (sA σ 56 i v) := put_ok (n := 56) h
theorem rd_57 {σ : Mem} {i : Nat} (h : i < 20) : rdA σ 57 (nI i) = some (σ.2.1 57 i) := rdA_ok (n := 57) h (by omega)
theorem wr_57 {σ : Mem} {i : Nat} {v : Int32} (h : i < 20) : wrA σ 57 (nI i) v = some (sA σ 57 i v) := wrA_ok (n := 57) h (by omega)
theorem at_57 {σ : Mem} {i : Nat} (h : i < 20) : F_X10_at 57 (nI i) σ = some (σ.2.1 57 i) := at_ok (n := 57) h
theorem put_57 {σ : Mem} {i : Nat} {v : Int32} (h : i < 20) : F_X10_put 57 (nI i) v σ = some (sA σ 57 i v) := put_ok (n := 57) h
theorem rd_58 {σ : Mem} {i : Nat} (h : i < 21) : rdA σ 58 (nI i) = some (σ.2.1 58 i) := rdA_ok (n := 58) h (by omega)
theorem wr_58 {σ : Mem} {i : Nat} {v : Int32} (h : i < 21) : wrA σ 58 (nI i) v = some (sA σ 58 i v) := wrA_ok (n := 58) h (by omega)
theorem at_58 {σ : Mem} {i : Nat} (h : i < 21) : F_X10_at 58 (nI i) σ = some (σ.2.1 58 i) := at_ok (n := 58) h
theorem put_58 {σ : Mem} {i : Nat} {v : Int32} (h : i < 21) : F_X10_put 58 (nI i) v σ = some (sA σ 58 i v) := put_ok (n := 58) h
theorem rd_59 {σ : Mem} {i : Nat} (h : i < 294) : rdA σ 59 (nI i) = some (σ.2.1 59 i) := rdA_ok (n := 59) h (by omega)
theorem wr_59 {σ : Mem} {i : Nat} {v : Int32} (h : i < 294) : wrA σ 59 (nI i) v = some (sA σ 59 i v) := wrA_ok (n := 59) h (by omega)
theorem at_59 {σ : Mem} {i : Nat} (h : i < 294) : F_X10_at 59 (nI i) σ = some (σ.2.1 59 i) := at_ok (n := 59) h
theorem put_59 {σ : Mem} {i : Nat} {v : Int32} (h : i < 294) : F_X10_put 59 (nI i) v σ = some (sA σ 59 i v) := put_ok (n := 59) h
theorem rd_60 {σ : Mem} {i : Nat} (h : i < 42) : rdA σ 60 (nI i) = some (σ.2.1 60 i) := rdA_ok (n := 60) h (by omega)
theorem wr_60 {σ : Mem} {i : Nat} {v : Int32} (h : i < 42) : wrA σ 60 (nI i) v = some (sA σ 60 i v) := wrA_ok (n := 60) h (by omega)
theorem at_60 {σ : Mem} {i : Nat} (h : i < 42) : F_X10_at 60 (nI i) σ = some (σ.2.1 60 i) := at_ok (n := 60) h
theorem put_60 {σ : Mem} {i : Nat} {v : Int32} (h : i < 42) : F_X10_put 60 (nI i) v σ = some (sA σ 60 i v) := put_ok (n := 60) h
theorem rd_61 {σ : Mem} {i : Nat} (h : i < 6) : rdA σ 61 (nI i) = some (σ.2.1 61 i) := rdA_ok (n := 61) h (by omega)
theorem wr_61 {σ : Mem} {i : Nat} {v : Int32} (h : i < 6) : wrA σ 61 (nI i) v = some (sA σ 61 i v) := wrA_ok (n := 61) h (by omega)
theorem at_61 {σ : Mem} {i : Nat} (h : i < 6) : F_X10_at 61 (nI i) σ = some (σ.2.1 61 i) := at_ok (n := 61) h
theorem put_61 {σ : Mem} {i : Nat} {v : Int32} (h : i < 6) : F_X10_put 61 (nI i) v σ = some (sA σ 61 i v) := put_ok (n := 61) h
theorem rd_62 {σ : Mem} {i : Nat} (h : i < 6) : rdA σ 62 (nI i) = some (σ.2.1 62 i) := rdA_ok (n := 62) h (by omega)
theorem wr_62 {σ : Mem} {i : Nat} {v : Int32} (h : i < 6) : wrA σ 62 (nI i) v = some (sA σ 62 i v) := wrA_ok (n := 62) h (by omega)
theorem at_62 {σ : Mem} {i : Nat} (h : i < 6) : F_X10_at 62 (nI i) σ = some (σ.2.1 62 i) := at_ok (n := 62) h
theorem put_62 {σ : Mem} {i : Nat} {v : Int32} (h : i < 6) : F_X10_put 62 (nI i) v σ = some (sA σ 62 i v) := put_ok (n := 62) h
theorem rd_63 {σ : Mem} {i : Nat} (h : i < 5) : rdA σ 63 (nI i) = some (σ.2.1 63 i) := rdA_ok (n := 63) h (by omega)
theorem wr_63 {σ : Mem} {i : Nat} {v : Int32} (h : i < 5) : wrA σ 63 (nI i) v = some (sA σ 63 i v) := wrA_ok (n := 63) h (by omega)
theorem at_63 {σ : Mem} {i : Nat} (h : i < 5) : F_X10_at 63 (nI i) σ = some (σ.2.1 63 i) := at_ok (n := 63) h
theorem put_63 {σ : Mem} {i : Nat} {v : Int32} (h : i < 5) : F_X10_put 63 (nI i) v σ = some (sA σ 63 i v) := put_ok (n := 63) h
theorem rd_64 {σ : Mem} {i : Nat} (h : i < 5) : rdA σ 64 (nI i) = some (σ.2.1 64 i) := rdA_ok (n := 64) h (by omega)
theorem wr_64 {σ : Mem} {i : Nat} {v : Int32} (h : i < 5) : wrA σ 64 (nI i) v = some (sA σ 64 i v) := wrA_ok (n := 64) h (by omega)
theorem at_64 {σ : Mem} {i : Nat} (h : i < 5) : F_X10_at 64 (nI i) σ = some (σ.2.1 64 i) := at_ok (n := 64) h
theorem put_64 {σ : Mem} {i : Nat} {v : Int32} (h : i < 5) : F_X10_put 64 (nI i) v σ = some (sA σ 64 i v) := put_ok (n := 64) h
theorem rd_65 {σ : Mem} {i : Nat} (h : i < 5) : rdA σ 65 (nI i) = some (σ.2.1 65 i) := rdA_ok (n := 65) h (by omega)
theorem wr_65 {σ : Mem} {i : Nat} {v : Int32} (h : i < 5) : wrA σ 65 (nI i) v = some (sA σ 65 i v) := wrA_ok (n := 65) h (by omega)
theorem at_65 {σ : Mem} {i : Nat} (h : i < 5) : F_X10_at 65 (nI i) σ = some (σ.2.1 65 i) := at_ok (n := 65) h
theorem put_65 {σ : Mem} {i : Nat} {v : Int32} (h : i < 5) : F_X10_put 65 (nI i) v σ = some (sA σ 65 i v) := put_ok (n := 65) h
theorem rd_66 {σ : Mem} {i : Nat} (h : i < 15) : rdA σ 66 (nI i) = some (σ.2.1 66 i) := rdA_ok (n := 66) h (by omega)
theorem wr_66 {σ : Mem} {i : Nat} {v : Int32} (h : i < 15) : wrA σ 66 (nI i) v = some (sA σ 66 i v) := wrA_ok (n := 66) h (by omega)
theorem at_66 {σ : Mem} {i : Nat} (h : i < 15) : F_X10_at 66 (nI i) σ = some (σ.2.1 66 i) := at_ok (n := 66) h
theorem put_66 {σ : Mem} {i : Nat} {v : Int32} (h : i < 15) : F_X10_put 66 (nI i) v σ = some (sA σ 66 i v) := put_ok (n := 66) h
theorem rd_67 {σ : Mem} {i : Nat} (h : i < 2) : rdA σ 67 (nI i) = some (σ.2.1 67 i) := rdA_ok (n := 67) h (by omega)
theorem wr_67 {σ : Mem} {i : Nat} {v : Int32} (h : i < 2) : wrA σ 67 (nI i) v = some (sA σ 67 i v) := wrA_ok (n := 67) h (by omega)
theorem at_67 {σ : Mem} {i : Nat} (h : i < 2) : F_X10_at 67 (nI i) σ = some (σ.2.1 67 i) := at_ok (n := 67) h
theorem put_67 {σ : Mem} {i : Nat} {v : Int32} (h : i < 2) : F_X10_put 67 (nI i) v σ = some (sA σ 67 i v) := put_ok (n := 67) h
theorem sI_1 {σ : Mem} {n m : Nat} {v : Int32} : (sI σ n v).1 m = if m = n then v else σ.1 m := rfl
theorem sI_2 {σ : Mem} {n : Nat} {v : Int32} : (sI σ n v).2 = σ.2 := rfl
theorem sA_1 {σ : Mem} {n i : Nat} {v : Int32} : (sA σ n i v).1 = σ.1 := rfl
theorem sA_2 {σ : Mem} {n i m : Nat} {v : Int32} : (sA σ n i v).2.1 m = if m = n then upd (σ.2.1 n) i v else σ.2.1 m := rfl
theorem sA_3 {σ : Mem} {n i : Nat} {v : Int32} : (sA σ n i v).2.2 = σ.2.2 := rfl
theorem sF_1 {σ : Mem} {n : Nat} {f : Nat → Int32} : (sF σ n f).1 = σ.1 := rfl
theorem sF_2 {σ : Mem} {n m : Nat} {f : Nat → Int32} : (sF σ n f).2.1 m = if m = n then f else σ.2.1 m := rfl
theorem sF_3 {σ : Mem} {n : Nat} {f : Nat → Int32} : (sF σ n f).2.2 = σ.2.2 := rfl
theorem sJ_1 {σ : Mem} {n : Nat} {v : Int64} : (sJ σ n v).1 = σ.1 := rfl
theorem sJ_2 {σ : Mem} {n : Nat} {v : Int64} : (sJ σ n v).2.1 = σ.2.1 := rfl
theorem sJ_3 {σ : Mem} {n m : Nat} {v : Int64} : (sJ σ n v).2.2 m = if m = n then v else σ.2.2 m := rfl
theorem upd_ap {f : Nat → Int32} {k j : Nat} {x : Int32} : upd f k x j = if j = k then x else f j := rfl
theorem nI_n9 {a : Nat} (h : a < 2 ^ 31) : (nI a = (-9 : Int32)) = False := by
  apply eq_false; intro e
  have h1 := nI_toInt h
  rw [e] at h1
  have h2 : (-9 : Int32).toInt = -9 := by decide +kernel
  omega
theorem nI_n9' {a : Nat} (h : a < 2 ^ 31) : ((-9 : Int32) = nI a) = False := by rw [show ((-9 : Int32) = nI a) = (nI a = -9) from propext eq_comm]; exact nI_n9 h
theorem nI_e {a b : Nat} (ha : a < 2 ^ 31) (hb : b < 2 ^ 31) : (nI a = nI b) = (a = b) := propext (nI_eq ha hb)
theorem nI_l1 {a b : Nat} (ha : a < 2 ^ 31) (hb : b < 2 ^ 31) : (nI a ≤ nI b) = (a ≤ b) := propext (nI_leI ha hb)
theorem nI_l2 {a b : Nat} (ha : a < 2 ^ 31) (hb : b < 2 ^ 31) : (nI a < nI b) = (a < b) := propext (nI_ltI ha hb)
theorem nI_neg {a : Nat} (ha : a < 2 ^ 31) : (nI a < nI 0) = False := eq_false (nI_pos ha)
theorem s_toInt {a b : Nat} (ha : a < 2 ^ 30) (hb : b < 2 ^ 30) : (nI a - nI b).toInt = (a : Int) - b := pk_sub_toInt ha hb
theorem s_pos {a b : Nat} (ha : a < 2 ^ 30) (hb : b < 2 ^ 30) : (nI 0 < nI a - nI b) = (b < a) := by
  apply propext
  rw [Int32.lt_iff_toInt_lt, s_toInt ha hb, nI_toInt (by omega)]
  omega
theorem s_zero {a b : Nat} (ha : a < 2 ^ 30) (hb : b < 2 ^ 30) : (nI a - nI b = nI 0) = (a = b) := by
  apply propext
  rw [← Int32.toInt_inj, s_toInt ha hb, nI_toInt (by omega)]
  omega
theorem s_le {a b c : Nat} (ha : a < 2 ^ 30) (hb : b < 2 ^ 30) (hc : c < 2 ^ 30) : (nI a ≤ nI b - nI c) = (a + c ≤ b) := by
  apply propext
  rw [Int32.le_iff_toInt_le, s_toInt hb hc, nI_toInt (by omega)]
  omega
-- a horse or none, as the machine has it
def hI (w : Nat) : Int32 := if w = 9 then -9 else nI w
theorem hI_9 : hI 9 = -9 := rfl
theorem hI_n {w : Nat} (h : w ≠ 9) : hI w = nI w := if_neg h
theorem hI_m9 {w : Nat} (h : w < 2 ^ 31) : (hI w = (-9 : Int32)) = (w = 9) := by
  unfold hI
  split
  · rename_i e; rw [e]; simp
  · rename_i e; rw [nI_n9 h]; exact (eq_false e).symm
theorem hI_e {w h : Nat} (hw : w < 2 ^ 31) (hh : h < 9) : (hI w = nI h) = (w = h) := by
  unfold hI
  split
  · rename_i e; subst e; rw [nI_n9' (by omega)]; exact (eq_false (by omega)).symm
  · exact nI_e hw (by omega)
theorem hI_inj {v w : Nat} (hv : v < 2 ^ 31) (hw : w < 2 ^ 31) : (hI v = hI w) = (v = w) := by
  by_cases h9 : w = 9
  · subst h9; exact hI_m9 hv
  · rw [hI_n h9]
    by_cases h8 : v = 9
    · subst h8; rw [hI_9, nI_n9' hw]; exact (eq_false (by omega)).symm
    · rw [hI_n h8, nI_e hv hw]
-- loops
theorem lp {α β : Type} (F : Nat → α → Nat → Option β) (R : Option β → Prop) (B : Nat) (P : Nat → α → Prop)
    (hx : ∀ n a, P B a → R (F (n + 1) a B))
    (hs : ∀ n a i, i < B → P i a → R (F (n + 1) a i) ∨ ∃ a', P (i + 1) a' ∧ F (n + 1) a i = F n a' (i + 1)) :
    ∀ (m i : Nat) (a : α) (n : Nat), B - i ≤ m → i ≤ B → m < n → P i a → R (F n a i)
  | m, i, a, 0, _, _, hn, _ => absurd hn (Nat.not_lt_zero _)
  | m, i, a, n + 1, hm, hi, hn, hp => by
    by_cases h : i = B
    · subst h; exact hx n a hp
    · rcases hs n a i (by omega) hp with h1 | ⟨a', h1, h2⟩
      · exact h1
      · rw [h2]
        exact lp F R B P hx hs (m - 1) (i + 1) a' n (by omega) (by omega) (by omega) h1
theorem lpD {α β : Type} (F : Nat → α → Nat → Option β) (B : Nat) (s : Nat → α) (r : Option β)
    (hx : ∀ n, F (n + 1) (s B) B = r)
    (hs : ∀ n i, i < B → F (n + 1) (s i) i = F n (s (i + 1)) (i + 1)) (n : Nat) (hn : B < n) : F n (s 0) 0 = r :=
  lp F (fun o => o = r) B (fun i a => a = s i) (fun n a e => by subst e; exact hx n) (fun n a i hi e => by subst e; exact .inr ⟨_, rfl, hs n i hi⟩) B 0 (s 0) n (by omega) (by omega) hn rfl

