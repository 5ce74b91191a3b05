theorem mok_cases {j : Nat} (h : mok j = true) : j = 1 ∨ j = 2 ∨ j = 3 ∨ j = 4 ∨ j = 5 ∨ j = 6 ∨ j = 7 ∨ j = 8 ∨ j = 9 ∨ j = 10 ∨ j = 11 ∨ j = 12 ∨ j = 13 ∨ j = 14 ∨ j = 15 ∨ j = 16 ∨ j = 17 ∨ j = 18 ∨ j = 20 ∨ j = 22 := by
  rcases Nat.lt_or_ge j 23 with q | q
  · rcases (show j = 0 ∨ j = 19 ∨ j = 21 ∨ (j = 1 ∨ j = 2 ∨ j = 3 ∨ j = 4 ∨ j = 5 ∨ j = 6 ∨ j = 7 ∨ j = 8 ∨ j = 9 ∨ j = 10 ∨ j = 11 ∨ j = 12 ∨ j = 13 ∨ j = 14 ∨ j = 15 ∨ j = 16 ∨ j = 17 ∨ j = 18 ∨ j = 20 ∨ j = 22) by omega) with rfl | rfl | rfl | u
    · exact absurd h (by decide)
    · exact absurd h (by decide)
    · exact absurd h (by decide)
    · exact u
  · unfold mok at h
    rw [List.getD_eq_getElem?_getD, List.getElem?_eq_none (by simpa using q)] at h
    cases h
theorem mok_all (P : Nat → Prop) (h1 : P 1) (h2 : P 2) (h3 : P 3) (h4 : P 4) (h5 : P 5) (h6 : P 6) (h7 : P 7) (h8 : P 8) (h9 : P 9) (h10 : P 10) (h11 : P 11) (h12 : P 12) (h13 : P 13) (h14 : P 14) (h15 : P 15) (h16 : P 16) (h17 : P 17) (h18 : P 18) (h20 : P 20) (h22 : P 22) : ∀ j, mok j = true → P j := by
  intro j h
  rcases mok_cases h with rfl | rfl | rfl | rfl | rfl | rfl | rfl | rfl | rfl | rfl | rfl | rfl | rfl | rfl | rfl | rfl | rfl | rfl | rfl | rfl
  all_goals assumption

theorem mok_inj {a1 a2 a3 a4 a5 a6 a7 a8 a9 a10 a11 a12 a13 a14 a15 a16 a17 a18 a20 a22 : Nat} (n1_2 : a1 ≠ a2) (n1_3 : a1 ≠ a3) (n1_4 : a1 ≠ a4) (n1_5 : a1 ≠ a5) (n1_6 : a1 ≠ a6) (n1_7 : a1 ≠ a7) (n1_8 : a1 ≠ a8) (n1_9 : a1 ≠ a9) (n1_10 : a1 ≠ a10) (n1_11 : a1 ≠ a11) (n1_12 : a1 ≠ a12) (n1_13 : a1 ≠ a13) (n1_14 : a1 ≠ a14) (n1_15 : a1 ≠ a15) (n1_16 : a1 ≠ a16) (n1_17 : a1 ≠ a17) (n1_18 : a1 ≠ a18) (n1_20 : a1 ≠ a20) (n1_22 : a1 ≠ a22) (n2_3 : a2 ≠ a3) (n2_4 : a2 ≠ a4) (n2_5 : a2 ≠ a5) (n2_6 : a2 ≠ a6) (n2_7 : a2 ≠ a7) (n2_8 : a2 ≠ a8) (n2_9 : a2 ≠ a9) (n2_10 : a2 ≠ a10) (n2_11 : a2 ≠ a11) (n2_12 : a2 ≠ a12) (n2_13 : a2 ≠ a13) (n2_14 : a2 ≠ a14) (n2_15 : a2 ≠ a15) (n2_16 : a2 ≠ a16) (n2_17 : a2 ≠ a17) (n2_18 : a2 ≠ a18) (n2_20 : a2 ≠ a20) (n2_22 : a2 ≠ a22) (n3_4 : a3 ≠ a4) (n3_5 : a3 ≠ a5) (n3_6 : a3 ≠ a6) (n3_7 : a3 ≠ a7) (n3_8 : a3 ≠ a8) (n3_9 : a3 ≠ a9) (n3_10 : a3 ≠ a10) (n3_11 : a3 ≠ a11) (n3_12 : a3 ≠ a12) (n3_13 : a3 ≠ a13) (n3_14 : a3 ≠ a14) (n3_15 : a3 ≠ a15) (n3_16 : a3 ≠ a16) (n3_17 : a3 ≠ a17) (n3_18 : a3 ≠ a18) (n3_20 : a3 ≠ a20) (n3_22 : a3 ≠ a22) (n4_5 : a4 ≠ a5) (n4_6 : a4 ≠ a6) (n4_7 : a4 ≠ a7) (n4_8 : a4 ≠ a8) (n4_9 : a4 ≠ a9) (n4_10 : a4 ≠ a10) (n4_11 : a4 ≠ a11) (n4_12 : a4 ≠ a12) (n4_13 : a4 ≠ a13) (n4_14 : a4 ≠ a14) (n4_15 : a4 ≠ a15) (n4_16 : a4 ≠ a16) (n4_17 : a4 ≠ a17) (n4_18 : a4 ≠ a18) (n4_20 : a4 ≠ a20) (n4_22 : a4 ≠ a22) (n5_6 : a5 ≠ a6) (n5_7 : a5 ≠ a7) (n5_8 : a5 ≠ a8) (n5_9 : a5 ≠ a9) (n5_10 : a5 ≠ a10) (n5_11 : a5 ≠ a11) (n5_12 : a5 ≠ a12) (n5_13 : a5 ≠ a13) (n5_14 : a5 ≠ a14) (n5_15 : a5 ≠ a15) (n5_16 : a5 ≠ a16) (n5_17 : a5 ≠ a17) (n5_18 : a5 ≠ a18) (n5_20 : a5 ≠ a20) (n5_22 : a5 ≠ a22) (n6_7 : a6 ≠ a7) (n6_8 : a6 ≠ a8) (n6_9 : a6 ≠ a9) (n6_10 : a6 ≠ a10) (n6_11 : a6 ≠ a11) (n6_12 : a6 ≠ a12) (n6_13 : a6 ≠ a13) (n6_14 : a6 ≠ a14) (n6_15 : a6 ≠ a15) (n6_16 : a6 ≠ a16) (n6_17 : a6 ≠ a17) (n6_18 : a6 ≠ a18) (n6_20 : a6 ≠ a20) (n6_22 : a6 ≠ a22) (n7_8 : a7 ≠ a8) (n7_9 : a7 ≠ a9) (n7_10 : a7 ≠ a10) (n7_11 : a7 ≠ a11) (n7_12 : a7 ≠ a12) (n7_13 : a7 ≠ a13) (n7_14 : a7 ≠ a14) (n7_15 : a7 ≠ a15) (n7_16 : a7 ≠ a16) (n7_17 : a7 ≠ a17) (n7_18 : a7 ≠ a18) (n7_20 : a7 ≠ a20) (n7_22 : a7 ≠ a22) (n8_9 : a8 ≠ a9) (n8_10 : a8 ≠ a10) (n8_11 : a8 ≠ a11) (n8_12 : a8 ≠ a12) (n8_13 : a8 ≠ a13) (n8_14 : a8 ≠ a14) (n8_15 : a8 ≠ a15) (n8_16 : a8 ≠ a16) (n8_17 : a8 ≠ a17) (n8_18 : a8 ≠ a18) (n8_20 : a8 ≠ a20) (n8_22 : a8 ≠ a22) (n9_10 : a9 ≠ a10) (n9_11 : a9 ≠ a11) (n9_12 : a9 ≠ a12) (n9_13 : a9 ≠ a13) (n9_14 : a9 ≠ a14) (n9_15 : a9 ≠ a15) (n9_16 : a9 ≠ a16) (n9_17 : a9 ≠ a17) (n9_18 : a9 ≠ a18) (n9_20 : a9 ≠ a20) (n9_22 : a9 ≠ a22) (n10_11 : a10 ≠ a11) (n10_12 : a10 ≠ a12) (n10_13 : a10 ≠ a13) (n10_14 : a10 ≠ a14) (n10_15 : a10 ≠ a15) (n10_16 : a10 ≠ a16) (n10_17 : a10 ≠ a17) (n10_18 : a10 ≠ a18) (n10_20 : a10 ≠ a20) (n10_22 : a10 ≠ a22) (n11_12 : a11 ≠ a12) (n11_13 : a11 ≠ a13) (n11_14 : a11 ≠ a14) (n11_15 : a11 ≠ a15) (n11_16 : a11 ≠ a16) (n11_17 : a11 ≠ a17) (n11_18 : a11 ≠ a18) (n11_20 : a11 ≠ a20) (n11_22 : a11 ≠ a22) (n12_13 : a12 ≠ a13) (n12_14 : a12 ≠ a14) (n12_15 : a12 ≠ a15) (n12_16 : a12 ≠ a16) (n12_17 : a12 ≠ a17) (n12_18 : a12 ≠ a18) (n12_20 : a12 ≠ a20) (n12_22 : a12 ≠ a22) (n13_14 : a13 ≠ a14) (n13_15 : a13 ≠ a15) (n13_16 : a13 ≠ a16) (n13_17 : a13 ≠ a17) (n13_18 : a13 ≠ a18) (n13_20 : a13 ≠ a20) (n13_22 : a13 ≠ a22) (n14_15 : a14 ≠ a15) (n14_16 : a14 ≠ a16) (n14_17 : a14 ≠ a17) (n14_18 : a14 ≠ a18) (n14_20 : a14 ≠ a20) (n14_22 : a14 ≠ a22) (n15_16 : a15 ≠ a16) (n15_17 : a15 ≠ a17) (n15_18 : a15 ≠ a18) (n15_20 : a15 ≠ a20) (n15_22 : a15 ≠ a22) (n16_17 : a16 ≠ a17) (n16_18 : a16 ≠ a18) (n16_20 : a16 ≠ a20) (n16_22 : a16 ≠ a22) (n17_18 : a17 ≠ a18) (n17_20 : a17 ≠ a20) (n17_22 : a17 ≠ a22) (n18_20 : a18 ≠ a20) (n18_22 : a18 ≠ a22) (n20_22 : a20 ≠ a22) : ∀ i j, mok i = true → mok j = true → [0, a1, a2, a3, a4, a5, a6, a7, a8, a9, a10, a11, a12, a13, a14, a15, a16, a17, a18, 0, a20, 0, a22].getD i 0 = [0, a1, a2, a3, a4, a5, a6, a7, a8, a9, a10, a11, a12, a13, a14, a15, a16, a17, a18, 0, a20, 0, a22].getD j 0 → i = j := by
  intro i j hi hj
  rcases mok_cases hi with rfl | rfl | rfl | rfl | rfl | rfl | rfl | rfl | rfl | rfl | rfl | rfl | rfl | rfl | rfl | rfl | rfl | rfl | rfl | rfl
  · rcases mok_cases hj with rfl | rfl | rfl | rfl | rfl | rfl | rfl | rfl | rfl | rfl | rfl | rfl | rfl | rfl | rfl | rfl | rfl | rfl | rfl | rfl
    · exact fun _ => rfl
    · exact fun u => absurd u n1_2
    · exact fun u => absurd u n1_3
    · exact fun u => absurd u n1_4
    · exact fun u => absurd u n1_5
    · exact fun u => absurd u n1_6
    · exact fun u => absurd u n1_7
    · exact fun u => absurd u n1_8
    · exact fun u => absurd u n1_9
    · exact fun u => absurd u n1_10
    · exact fun u => absurd u n1_11
    · exact fun u => absurd u n1_12
    · exact fun u => absurd u n1_13
    · exact fun u => absurd u n1_14
    · exact fun u => absurd u n1_15
    · exact fun u => absurd u n1_16
    · exact fun u => absurd u n1_17
    · exact fun u => absurd u n1_18
    · exact fun u => absurd u n1_20
    · exact fun u => absurd u n1_22
  · rcases mok_cases hj with rfl | rfl | rfl | rfl | rfl | rfl | rfl | rfl | rfl | rfl | rfl | rfl | rfl | rfl | rfl | rfl | rfl | rfl | rfl | rfl
    · exact fun u => absurd u.symm n1_2
    · exact fun _ => rfl
    · exact fun u => absurd u n2_3
    · exact fun u => absurd u n2_4
    · exact fun u => absurd u n2_5
    · exact fun u => absurd u n2_6
    · exact fun u => absurd u n2_7
    · exact fun u => absurd u n2_8
    · exact fun u => absurd u n2_9
    · exact fun u => absurd u n2_10
    · exact fun u => absurd u n2_11
    · exact fun u => absurd u n2_12
    · exact fun u => absurd u n2_13
    · exact fun u => absurd u n2_14
    · exact fun u => absurd u n2_15
    · exact fun u => absurd u n2_16
    · exact fun u => absurd u n2_17
    · exact fun u => absurd u n2_18
    · exact fun u => absurd u n2_20
    · exact fun u => absurd u n2_22
  · rcases mok_cases hj with rfl | rfl | rfl | rfl | rfl | rfl | rfl | rfl | rfl | rfl | rfl | rfl | rfl | rfl | rfl | rfl | rfl | rfl | rfl | rfl
    · exact fun u => absurd u.symm n1_3
    · exact fun u => absurd u.symm n2_3
    · exact fun _ => rfl
    · exact fun u => absurd u n3_4
    · exact fun u => absurd u n3_5
    · exact fun u => absurd u n3_6
    · exact fun u => absurd u n3_7
    · exact fun u => absurd u n3_8
    · exact fun u => absurd u n3_9
    · exact fun u => absurd u n3_10
    · exact fun u => absurd u n3_11
    · exact fun u => absurd u n3_12
    · exact fun u => absurd u n3_13
    · exact fun u => absurd u n3_14
    · exact fun u => absurd u n3_15
    · exact fun u => absurd u n3_16
    · exact fun u => absurd u n3_17
    · exact fun u => absurd u n3_18
    · exact fun u => absurd u n3_20
    · exact fun u => absurd u n3_22
  · rcases mok_cases hj with rfl | rfl | rfl | rfl | rfl | rfl | rfl | rfl | rfl | rfl | rfl | rfl | rfl | rfl | rfl | rfl | rfl | rfl | rfl | rfl
    · exact fun u => absurd u.symm n1_4
    · exact fun u => absurd u.symm n2_4
    · exact fun u => absurd u.symm n3_4
    · exact fun _ => rfl
    · exact fun u => absurd u n4_5
    · exact fun u => absurd u n4_6
    · exact fun u => absurd u n4_7
    · exact fun u => absurd u n4_8
    · exact fun u => absurd u n4_9
    · exact fun u => absurd u n4_10
    · exact fun u => absurd u n4_11
    · exact fun u => absurd u n4_12
    · exact fun u => absurd u n4_13
    · exact fun u => absurd u n4_14
    · exact fun u => absurd u n4_15
    · exact fun u => absurd u n4_16
    · exact fun u => absurd u n4_17
    · exact fun u => absurd u n4_18
    · exact fun u => absurd u n4_20
    · exact fun u => absurd u n4_22
  · rcases mok_cases hj with rfl | rfl | rfl | rfl | rfl | rfl | rfl | rfl | rfl | rfl | rfl | rfl | rfl | rfl | rfl | rfl | rfl | rfl | rfl | rfl
    · exact fun u => absurd u.symm n1_5
    · exact fun u => absurd u.symm n2_5
    · exact fun u => absurd u.symm n3_5
    · exact fun u => absurd u.symm n4_5
    · exact fun _ => rfl
    · exact fun u => absurd u n5_6
    · exact fun u => absurd u n5_7
    · exact fun u => absurd u n5_8
    · exact fun u => absurd u n5_9
    · exact fun u => absurd u n5_10
    · exact fun u => absurd u n5_11
    · exact fun u => absurd u n5_12
    · exact fun u => absurd u n5_13
    · exact fun u => absurd u n5_14
    · exact fun u => absurd u n5_15
    · exact fun u => absurd u n5_16
    · exact fun u => absurd u n5_17
    · exact fun u => absurd u n5_18
    · exact fun u => absurd u n5_20
    · exact fun u => absurd u n5_22
  · rcases mok_cases hj with rfl | rfl | rfl | rfl | rfl | rfl | rfl | rfl | rfl | rfl | rfl | rfl | rfl | rfl | rfl | rfl | rfl | rfl | rfl | rfl
    · exact fun u => absurd u.symm n1_6
    · exact fun u => absurd u.symm n2_6
    · exact fun u => absurd u.symm n3_6
    · exact fun u => absurd u.symm n4_6
    · exact fun u => absurd u.symm n5_6
    · exact fun _ => rfl
    · exact fun u => absurd u n6_7
    · exact fun u => absurd u n6_8
    · exact fun u => absurd u n6_9
    · exact fun u => absurd u n6_10
    · exact fun u => absurd u n6_11
    · exact fun u => absurd u n6_12
    · exact fun u => absurd u n6_13
    · exact fun u => absurd u n6_14
    · exact fun u => absurd u n6_15
    · exact fun u => absurd u n6_16
    · exact fun u => absurd u n6_17
    · exact fun u => absurd u n6_18
    · exact fun u => absurd u n6_20
    · exact fun u => absurd u n6_22
  · rcases mok_cases hj with rfl | rfl | rfl | rfl | rfl | rfl | rfl | rfl | rfl | rfl | rfl | rfl | rfl | rfl | rfl | rfl | rfl | rfl | rfl | rfl
    · exact fun u => absurd u.symm n1_7
    · exact fun u => absurd u.symm n2_7
    · exact fun u => absurd u.symm n3_7
    · exact fun u => absurd u.symm n4_7
    · exact fun u => absurd u.symm n5_7
    · exact fun u => absurd u.symm n6_7
    · exact fun _ => rfl
    · exact fun u => absurd u n7_8
    · exact fun u => absurd u n7_9
    · exact fun u => absurd u n7_10
    · exact fun u => absurd u n7_11
    · exact fun u => absurd u n7_12
    · exact fun u => absurd u n7_13
    · exact fun u => absurd u n7_14
    · exact fun u => absurd u n7_15
    · exact fun u => absurd u n7_16
    · exact fun u => absurd u n7_17
    · exact fun u => absurd u n7_18
    · exact fun u => absurd u n7_20
    · exact fun u => absurd u n7_22
  · rcases mok_cases hj with rfl | rfl | rfl | rfl | rfl | rfl | rfl | rfl | rfl | rfl | rfl | rfl | rfl | rfl | rfl | rfl | rfl | rfl | rfl | rfl
    · exact fun u => absurd u.symm n1_8
    · exact fun u => absurd u.symm n2_8
    · exact fun u => absurd u.symm n3_8
    · exact fun u => absurd u.symm n4_8
    · exact fun u => absurd u.symm n5_8
    · exact fun u => absurd u.symm n6_8
    · exact fun u => absurd u.symm n7_8
    · exact fun _ => rfl
    · exact fun u => absurd u n8_9
    · exact fun u => absurd u n8_10
    · exact fun u => absurd u n8_11
    · exact fun u => absurd u n8_12
    · exact fun u => absurd u n8_13
    · exact fun u => absurd u n8_14
    · exact fun u => absurd u n8_15
    · exact fun u => absurd u n8_16
    · exact fun u => absurd u n8_17
    · exact fun u => absurd u n8_18
    · exact fun u => absurd u n8_20
    · exact fun u => absurd u n8_22
  · rcases mok_cases hj with rfl | rfl | rfl | rfl | rfl | rfl | rfl | rfl | rfl | rfl | rfl | rfl | rfl | rfl | rfl | rfl | rfl | rfl | rfl | rfl
    · exact fun u => absurd u.symm n1_9
    · exact fun u => absurd u.symm n2_9
    · exact fun u => absurd u.symm n3_9
    · exact fun u => absurd u.symm n4_9
    · exact fun u => absurd u.symm n5_9
    · exact fun u => absurd u.symm n6_9
    · exact fun u => absurd u.symm n7_9
    · exact fun u => absurd u.symm n8_9
    · exact fun _ => rfl
    · exact fun u => absurd u n9_10
    · exact fun u => absurd u n9_11
    · exact fun u => absurd u n9_12
    · exact fun u => absurd u n9_13
    · exact fun u => absurd u n9_14
    · exact fun u => absurd u n9_15
    · exact fun u => absurd u n9_16
    · exact fun u => absurd u n9_17
    · exact fun u => absurd u n9_18
    · exact fun u => absurd u n9_20
    · exact fun u => absurd u n9_22
  · rcases mok_cases hj with rfl | rfl | rfl | rfl | rfl | rfl | rfl | rfl | rfl | rfl | rfl | rfl | rfl | rfl | rfl | rfl | rfl | rfl | rfl | rfl
    · exact fun u => absurd u.symm n1_10
    · exact fun u => absurd u.symm n2_10
    · exact fun u => absurd u.symm n3_10
    · exact fun u => absurd u.symm n4_10
    · exact fun u => absurd u.symm n5_10
    · exact fun u => absurd u.symm n6_10
    · exact fun u => absurd u.symm n7_10
    · exact fun u => absurd u.symm n8_10
    · exact fun u => absurd u.symm n9_10
    · exact fun _ => rfl
    · exact fun u => absurd u n10_11
    · exact fun u => absurd u n10_12
    · exact fun u => absurd u n10_13
    · exact fun u => absurd u n10_14
    · exact fun u => absurd u n10_15
    · exact fun u => absurd u n10_16
    · exact fun u => absurd u n10_17
    · exact fun u => absurd u n10_18
    · exact fun u => absurd u n10_20
    · exact fun u => absurd u n10_22
  · rcases mok_cases hj with rfl | rfl | rfl | rfl | rfl | rfl | rfl | rfl | rfl | rfl | rfl | rfl | rfl | rfl | rfl | rfl | rfl | rfl | rfl | rfl
    · exact fun u => absurd u.symm n1_11
    · exact fun u => absurd u.symm n2_11
    · exact fun u => absurd u.symm n3_11
    · exact fun u => absurd u.symm n4_11
    · exact fun u => absurd u.symm n5_11
    · exact fun u => absurd u.symm n6_11
    · exact fun u => absurd u.symm n7_11
    · exact fun u => absurd u.symm n8_11
    · exact fun u => absurd u.symm n9_11
    · exact fun u => absurd u.symm n10_11
    · exact fun _ => rfl
    · exact fun u => absurd u n11_12
    · exact fun u => absurd u n11_13
    · exact fun u => absurd u n11_14
    · exact fun u => absurd u n11_15
    · exact fun u => absurd u n11_16
    · exact fun u => absurd u n11_17
    · exact fun u => absurd u n11_18
    · exact fun u => absurd u n11_20
    · exact fun u => absurd u n11_22
  · rcases mok_cases hj with rfl | rfl | rfl | rfl | rfl | rfl | rfl | rfl | rfl | rfl | rfl | rfl | rfl | rfl | rfl | rfl | rfl | rfl | rfl | rfl
    · exact fun u => absurd u.symm n1_12
    · exact fun u => absurd u.symm n2_12
    · exact fun u => absurd u.symm n3_12
    · exact fun u => absurd u.symm n4_12
    · exact fun u => absurd u.symm n5_12
    · exact fun u => absurd u.symm n6_12
    · exact fun u => absurd u.symm n7_12
    · exact fun u => absurd u.symm n8_12
    · exact fun u => absurd u.symm n9_12
    · exact fun u => absurd u.symm n10_12
    · exact fun u => absurd u.symm n11_12
    · exact fun _ => rfl
    · exact fun u => absurd u n12_13
    · exact fun u => absurd u n12_14
    · exact fun u => absurd u n12_15
    · exact fun u => absurd u n12_16
    · exact fun u => absurd u n12_17
    · exact fun u => absurd u n12_18
    · exact fun u => absurd u n12_20
    · exact fun u => absurd u n12_22
  · rcases mok_cases hj with rfl | rfl | rfl | rfl | rfl | rfl | rfl | rfl | rfl | rfl | rfl | rfl | rfl | rfl | rfl | rfl | rfl | rfl | rfl | rfl
    · exact fun u => absurd u.symm n1_13
    · exact fun u => absurd u.symm n2_13
    · exact fun u => absurd u.symm n3_13
    · exact fun u => absurd u.symm n4_13
    · exact fun u => absurd u.symm n5_13
    · exact fun u => absurd u.symm n6_13
    · exact fun u => absurd u.symm n7_13
    · exact fun u => absurd u.symm n8_13
    · exact fun u => absurd u.symm n9_13
    · exact fun u => absurd u.symm n10_13
    · exact fun u => absurd u.symm n11_13
    · exact fun u => absurd u.symm n12_13
    · exact fun _ => rfl
    · exact fun u => absurd u n13_14
    · exact fun u => absurd u n13_15
    · exact fun u => absurd u n13_16
    · exact fun u => absurd u n13_17
    · exact fun u => absurd u n13_18
    · exact fun u => absurd u n13_20
    · exact fun u => absurd u n13_22
  · rcases mok_cases hj with rfl | rfl | rfl | rfl | rfl | rfl | rfl | rfl | rfl | rfl | rfl | rfl | rfl | rfl | rfl | rfl | rfl | rfl | rfl | rfl
    · exact fun u => absurd u.symm n1_14
    · exact fun u => absurd u.symm n2_14
    · exact fun u => absurd u.symm n3_14
    · exact fun u => absurd u.symm n4_14
    · exact fun u => absurd u.symm n5_14
    · exact fun u => absurd u.symm n6_14
    · exact fun u => absurd u.symm n7_14
    · exact fun u => absurd u.symm n8_14
    · exact fun u => absurd u.symm n9_14
    · exact fun u => absurd u.symm n10_14
    · exact fun u => absurd u.symm n11_14
    · exact fun u => absurd u.symm n12_14
    · exact fun u => absurd u.symm n13_14
    · exact fun _ => rfl
    · exact fun u => absurd u n14_15
    · exact fun u => absurd u n14_16
    · exact fun u => absurd u n14_17
    · exact fun u => absurd u n14_18
    · exact fun u => absurd u n14_20
    · exact fun u => absurd u n14_22
  · rcases mok_cases hj with rfl | rfl | rfl | rfl | rfl | rfl | rfl | rfl | rfl | rfl | rfl | rfl | rfl | rfl | rfl | rfl | rfl | rfl | rfl | rfl
    · exact fun u => absurd u.symm n1_15
    · exact fun u => absurd u.symm n2_15
    · exact fun u => absurd u.symm n3_15
    · exact fun u => absurd u.symm n4_15
    · exact fun u => absurd u.symm n5_15
    · exact fun u => absurd u.symm n6_15
    · exact fun u => absurd u.symm n7_15
    · exact fun u => absurd u.symm n8_15
    · exact fun u => absurd u.symm n9_15
    · exact fun u => absurd u.symm n10_15
    · exact fun u => absurd u.symm n11_15
    · exact fun u => absurd u.symm n12_15
    · exact fun u => absurd u.symm n13_15
    · exact fun u => absurd u.symm n14_15
    · exact fun _ => rfl
    · exact fun u => absurd u n15_16
    · exact fun u => absurd u n15_17
    · exact fun u => absurd u n15_18
    · exact fun u => absurd u n15_20
    · exact fun u => absurd u n15_22
  · rcases mok_cases hj with rfl | rfl | rfl | rfl | rfl | rfl | rfl | rfl | rfl | rfl | rfl | rfl | rfl | rfl | rfl | rfl | rfl | rfl | rfl | rfl
    · exact fun u => absurd u.symm n1_16
    · exact fun u => absurd u.symm n2_16
    · exact fun u => absurd u.symm n3_16
    · exact fun u => absurd u.symm n4_16
    · exact fun u => absurd u.symm n5_16
    · exact fun u => absurd u.symm n6_16
    · exact fun u => absurd u.symm n7_16
    · exact fun u => absurd u.symm n8_16
    · exact fun u => absurd u.symm n9_16
    · exact fun u => absurd u.symm n10_16
    · exact fun u => absurd u.symm n11_16
    · exact fun u => absurd u.symm n12_16
    · exact fun u => absurd u.symm n13_16
    · exact fun u => absurd u.symm n14_16
    · exact fun u => absurd u.symm n15_16
    · exact fun _ => rfl
    · exact fun u => absurd u n16_17
    · exact fun u => absurd u n16_18
    · exact fun u => absurd u n16_20
    · exact fun u => absurd u n16_22
  · rcases mok_cases hj with rfl | rfl | rfl | rfl | rfl | rfl | rfl | rfl | rfl | rfl | rfl | rfl | rfl | rfl | rfl | rfl | rfl | rfl | rfl | rfl
    · exact fun u => absurd u.symm n1_17
    · exact fun u => absurd u.symm n2_17
    · exact fun u => absurd u.symm n3_17
    · exact fun u => absurd u.symm n4_17
    · exact fun u => absurd u.symm n5_17
    · exact fun u => absurd u.symm n6_17
    · exact fun u => absurd u.symm n7_17
    · exact fun u => absurd u.symm n8_17
    · exact fun u => absurd u.symm n9_17
    · exact fun u => absurd u.symm n10_17
    · exact fun u => absurd u.symm n11_17
    · exact fun u => absurd u.symm n12_17
    · exact fun u => absurd u.symm n13_17
    · exact fun u => absurd u.symm n14_17
    · exact fun u => absurd u.symm n15_17
    · exact fun u => absurd u.symm n16_17
    · exact fun _ => rfl
    · exact fun u => absurd u n17_18
    · exact fun u => absurd u n17_20
    · exact fun u => absurd u n17_22
  · rcases mok_cases hj with rfl | rfl | rfl | rfl | rfl | rfl | rfl | rfl | rfl | rfl | rfl | rfl | rfl | rfl | rfl | rfl | rfl | rfl | rfl | rfl
    · exact fun u => absurd u.symm n1_18
    · exact fun u => absurd u.symm n2_18
    · exact fun u => absurd u.symm n3_18
    · exact fun u => absurd u.symm n4_18
    · exact fun u => absurd u.symm n5_18
    · exact fun u => absurd u.symm n6_18
    · exact fun u => absurd u.symm n7_18
    · exact fun u => absurd u.symm n8_18
    · exact fun u => absurd u.symm n9_18
    · exact fun u => absurd u.symm n10_18
    · exact fun u => absurd u.symm n11_18
    · exact fun u => absurd u.symm n12_18
    · exact fun u => absurd u.symm n13_18
    · exact fun u => absurd u.symm n14_18
    · exact fun u => absurd u.symm n15_18
    · exact fun u => absurd u.symm n16_18
    · exact fun u => absurd u.symm n17_18
    · exact fun _ => rfl
    · exact fun u => absurd u n18_20
    · exact fun u => absurd u n18_22
  · rcases mok_cases hj with rfl | rfl | rfl | rfl | rfl | rfl | rfl | rfl | rfl | rfl | rfl | rfl | rfl | rfl | rfl | rfl | rfl | rfl | rfl | rfl
    · exact fun u => absurd u.symm n1_20
    · exact fun u => absurd u.symm n2_20
    · exact fun u => absurd u.symm n3_20
    · exact fun u => absurd u.symm n4_20
    · exact fun u => absurd u.symm n5_20
    · exact fun u => absurd u.symm n6_20
    · exact fun u => absurd u.symm n7_20
    · exact fun u => absurd u.symm n8_20
    · exact fun u => absurd u.symm n9_20
    · exact fun u => absurd u.symm n10_20
    · exact fun u => absurd u.symm n11_20
    · exact fun u => absurd u.symm n12_20
    · exact fun u => absurd u.symm n13_20
    · exact fun u => absurd u.symm n14_20
    · exact fun u => absurd u.symm n15_20
    · exact fun u => absurd u.symm n16_20
    · exact fun u => absurd u.symm n17_20
    · exact fun u => absurd u.symm n18_20
    · exact fun _ => rfl
    · exact fun u => absurd u n20_22
  · rcases mok_cases hj with rfl | rfl | rfl | rfl | rfl | rfl | rfl | rfl | rfl | rfl | rfl | rfl | rfl | rfl | rfl | rfl | rfl | rfl | rfl | rfl
    · exact fun u => absurd u.symm n1_22
    · exact fun u => absurd u.symm n2_22
    · exact fun u => absurd u.symm n3_22
    · exact fun u => absurd u.symm n4_22
    · exact fun u => absurd u.symm n5_22
    · exact fun u => absurd u.symm n6_22
    · exact fun u => absurd u.symm n7_22
    · exact fun u => absurd u.symm n8_22
    · exact fun u => absurd u.symm n9_22
    · exact fun u => absurd u.symm n10_22
    · exact fun u => absurd u.symm n11_22
    · exact fun u => absurd u.symm n12_22
    · exact fun u => absurd u.symm n13_22
    · exact fun u => absurd u.symm n14_22
    · exact fun u => absurd u.symm n15_22
    · exact fun u => absurd u.symm n16_22
    · exact fun u => absurd u.symm n17_22
    · exact fun u => absurd u.symm n18_22
    · exact fun u => absurd u.symm n20_22
    · exact fun _ => rfl

set_option maxHeartbeats 4000000 in
set_option maxRecDepth 20000 in
theorem c_M_init (l : Launch) (D : va_G) (T : Nat → ClassId) (A : Nat → Prop) (σ : wd_S) (y : Nat) (ha : σ y = some (.inr (4, [.int 0, .null, .null, .null, .null, .null, .null, .null, .null, .null, .null, .null, .null, .null, .null, .null, .null, .null, .null, .int 0, .null, .int 0, .null]))) : Met l y_M_init (Cond.code y_M_init b_M_init 1 none :: wd_tb) { frames := 1, cells := 20, slots := 3854, locals := 12 } (va_Pc [.ref y] (wd_Pre D T A σ)) (va_Qv (fun σ1 => RM T σ1 y (0, fun _ _ => 0, 0, fun _ _ => 0, fun _ => 0, (fun _ => 0, 0))) (wd_B D A) A) 20 3854 A := by
  refine wd_ofW (by decide) (Nat.le_of_ble_eq_true rfl) ?_
  intro p e s m below meth c0 ls C hr hlocks hname h hl
  have hl : lv_has ls 1 [(0, .ref y)] := hl
  have hx := C.1
  have hb := C.2.1
  refine lv_aload_n hx hb d_M_init_0 rfl (lv_at hl 0 rfl) ?_
  refine W.objInit hx hb C.2.2.2.1 (C.2.2.2.2 _ lk_M_1) (C.2.2.2.2 _ wm_obj) (C.2.2.2.2 _ wc_obj) rfl (by rw [C.2.2.1]; exact hl.1) rfl d_M_init_1 (Nat.le_of_ble_eq_true rfl) (Nat.le_of_ble_eq_true rfl) ?_
  refine W.eq (g2 := F0 m 4 ls []) rfl ?_
  refine lv_aload_n hx hb d_M_init_4 rfl (lv_at hl 0 rfl) ?_
  refine lv_bipush (v := 121) hx hb d_M_init_5 (by decide) ?_
  refine wd_newi C h 0 rfl wa_int 121 121 (by decide) (by decide) (by decide) (Nat.le_of_ble_eq_true rfl) (Nat.le_of_ble_eq_true rfl) d_M_init_7 (fun q_1 H hq_2 h => ?_)
  have ne_5 : y ≠ q_1 := wd_nn ha hq_2
  have h_4 : (wd_up σ q_1 (.inl (T 0, 121, .inl (fun _ => 0)))) y = some (.inr (4, [.int 0, .null, .null, .null, .null, .null, .null, .null, .null, .null, .null, .null, .null, .null, .null, .null, .null, .null, .null, .int 0, .null, .int 0, .null])) := wd_uk ha ne_5
  have h_3 : (wd_up σ q_1 (.inl (T 0, 121, .inl (fun _ => 0)))) q_1 = some (.inl (T 0, 121, .inl (fun _ => 0))) := wd_us _ _ _
  generalize (wd_up σ q_1 (.inl (T 0, 121, .inl (fun _ => 0)))) = σ_6 at h h_4 h_3
  refine wd_putF C h kc_M h_4 1 (by decide) lk_M_7 rfl hname rfl (by rfl) (by rfl) (Nat.le_of_ble_eq_true rfl) d_M_init_9 (fun H locs h => ?_)
  replace h : wd_C D T A s H locs (wd_up σ_6 y (.inr (4, [.int 0, .ref q_1, .null, .null, .null, .null, .null, .null, .null, .null, .null, .null, .null, .null, .null, .null, .null, .null, .null, .int 0, .null, .int 0, .null]))) := h
  have h_7 : (wd_up σ_6 y (.inr (4, [.int 0, .ref q_1, .null, .null, .null, .null, .null, .null, .null, .null, .null, .null, .null, .null, .null, .null, .null, .null, .null, .int 0, .null, .int 0, .null]))) y = some (.inr (4, [.int 0, .ref q_1, .null, .null, .null, .null, .null, .null, .null, .null, .null, .null, .null, .null, .null, .null, .null, .null, .null, .int 0, .null, .int 0, .null])) := wd_us _ _ _
  have h_8 : (wd_up σ_6 y (.inr (4, [.int 0, .ref q_1, .null, .null, .null, .null, .null, .null, .null, .null, .null, .null, .null, .null, .null, .null, .null, .null, .null, .int 0, .null, .int 0, .null]))) q_1 = some (.inl (T 0, 121, .inl (fun _ => 0))) := wd_uk h_3 (Ne.symm ne_5)
  generalize (wd_up σ_6 y (.inr (4, [.int 0, .ref q_1, .null, .null, .null, .null, .null, .null, .null, .null, .null, .null, .null, .null, .null, .null, .null, .null, .null, .int 0, .null, .int 0, .null]))) = σ_9 at h h_7 h_8
  refine lv_aload_n hx hb d_M_init_12 rfl (lv_at hl 0 rfl) ?_
  refine lv_bipush (v := 121) hx hb d_M_init_13 (by decide) ?_
  refine wd_newi C h 0 rfl wa_int 121 121 (by decide) (by decide) (by decide) (Nat.le_of_ble_eq_true rfl) (Nat.le_of_ble_eq_true rfl) d_M_init_15 (fun q_10 H hq_11 h => ?_)
  have ne_14 : y ≠ q_10 := wd_nn h_7 hq_11
  have h_13 : (wd_up σ_9 q_10 (.inl (T 0, 121, .inl (fun _ => 0)))) y = some (.inr (4, [.int 0, .ref q_1, .null, .null, .null, .null, .null, .null, .null, .null, .null, .null, .null, .null, .null, .null, .null, .null, .null, .int 0, .null, .int 0, .null])) := wd_uk h_7 ne_14
  have ne_16 : q_1 ≠ q_10 := wd_nn h_8 hq_11
  have h_15 : (wd_up σ_9 q_10 (.inl (T 0, 121, .inl (fun _ => 0)))) q_1 = some (.inl (T 0, 121, .inl (fun _ => 0))) := wd_uk h_8 ne_16
  have h_12 : (wd_up σ_9 q_10 (.inl (T 0, 121, .inl (fun _ => 0)))) q_10 = some (.inl (T 0, 121, .inl (fun _ => 0))) := wd_us _ _ _
  generalize (wd_up σ_9 q_10 (.inl (T 0, 121, .inl (fun _ => 0)))) = σ_17 at h h_13 h_15 h_12
  refine wd_putF C h kc_M h_13 2 (by decide) lk_M_13 rfl hname rfl (by rfl) (by rfl) (Nat.le_of_ble_eq_true rfl) d_M_init_17 (fun H locs h => ?_)
  replace h : wd_C D T A s H locs (wd_up σ_17 y (.inr (4, [.int 0, .ref q_1, .ref q_10, .null, .null, .null, .null, .null, .null, .null, .null, .null, .null, .null, .null, .null, .null, .null, .null, .int 0, .null, .int 0, .null]))) := h
  have h_18 : (wd_up σ_17 y (.inr (4, [.int 0, .ref q_1, .ref q_10, .null, .null, .null, .null, .null, .null, .null, .null, .null, .null, .null, .null, .null, .null, .null, .null, .int 0, .null, .int 0, .null]))) y = some (.inr (4, [.int 0, .ref q_1, .ref q_10, .null, .null, .null, .null, .null, .null, .null, .null, .null, .null, .null, .null, .null, .null, .null, .null, .int 0, .null, .int 0, .null])) := wd_us _ _ _
  have h_19 : (wd_up σ_17 y (.inr (4, [.int 0, .ref q_1, .ref q_10, .null, .null, .null, .null, .null, .null, .null, .null, .null, .null, .null, .null, .null, .null, .null, .null, .int 0, .null, .int 0, .null]))) q_1 = some (.inl (T 0, 121, .inl (fun _ => 0))) := wd_uk h_15 (Ne.symm ne_5)
  have h_20 : (wd_up σ_17 y (.inr (4, [.int 0, .ref q_1, .ref q_10, .null, .null, .null, .null, .null, .null, .null, .null, .null, .null, .null, .null, .null, .null, .null, .null, .int 0, .null, .int 0, .null]))) q_10 = some (.inl (T 0, 121, .inl (fun _ => 0))) := wd_uk h_12 (Ne.symm ne_14)
  generalize (wd_up σ_17 y (.inr (4, [.int 0, .ref q_1, .ref q_10, .null, .null, .null, .null, .null, .null, .null, .null, .null, .null, .null, .null, .null, .null, .null, .null, .int 0, .null, .int 0, .null]))) = σ_21 at h h_18 h_19 h_20
  refine lv_aload_n hx hb d_M_init_20 rfl (lv_at hl 0 rfl) ?_
  refine lv_bipush (v := 121) hx hb d_M_init_21 (by decide) ?_
  refine wd_newi C h 0 rfl wa_int 121 121 (by decide) (by decide) (by decide) (Nat.le_of_ble_eq_true rfl) (Nat.le_of_ble_eq_true rfl) d_M_init_23 (fun q_22 H hq_23 h => ?_)
  have ne_26 : y ≠ q_22 := wd_nn h_18 hq_23
  have h_25 : (wd_up σ_21 q_22 (.inl (T 0, 121, .inl (fun _ => 0)))) y = some (.inr (4, [.int 0, .ref q_1, .ref q_10, .null, .null, .null, .null, .null, .null, .null, .null, .null, .null, .null, .null, .null, .null, .null, .null, .int 0, .null, .int 0, .null])) := wd_uk h_18 ne_26
  have ne_28 : q_1 ≠ q_22 := wd_nn h_19 hq_23
  have h_27 : (wd_up σ_21 q_22 (.inl (T 0, 121, .inl (fun _ => 0)))) q_1 = some (.inl (T 0, 121, .inl (fun _ => 0))) := wd_uk h_19 ne_28
  have ne_30 : q_10 ≠ q_22 := wd_nn h_20 hq_23
  have h_29 : (wd_up σ_21 q_22 (.inl (T 0, 121, .inl (fun _ => 0)))) q_10 = some (.inl (T 0, 121, .inl (fun _ => 0))) := wd_uk h_20 ne_30
  have h_24 : (wd_up σ_21 q_22 (.inl (T 0, 121, .inl (fun _ => 0)))) q_22 = some (.inl (T 0, 121, .inl (fun _ => 0))) := wd_us _ _ _
  generalize (wd_up σ_21 q_22 (.inl (T 0, 121, .inl (fun _ => 0)))) = σ_31 at h h_25 h_27 h_29 h_24
  refine wd_putF C h kc_M h_25 3 (by decide) lk_M_16 rfl hname rfl (by rfl) (by rfl) (Nat.le_of_ble_eq_true rfl) d_M_init_25 (fun H locs h => ?_)
  replace h : wd_C D T A s H locs (wd_up σ_31 y (.inr (4, [.int 0, .ref q_1, .ref q_10, .ref q_22, .null, .null, .null, .null, .null, .null, .null, .null, .null, .null, .null, .null, .null, .null, .null, .int 0, .null, .int 0, .null]))) := h
  have h_32 : (wd_up σ_31 y (.inr (4, [.int 0, .ref q_1, .ref q_10, .ref q_22, .null, .null, .null, .null, .null, .null, .null, .null, .null, .null, .null, .null, .null, .null, .null, .int 0, .null, .int 0, .null]))) y = some (.inr (4, [.int 0, .ref q_1, .ref q_10, .ref q_22, .null, .null, .null, .null, .null, .null, .null, .null, .null, .null, .null, .null, .null, .null, .null, .int 0, .null, .int 0, .null])) := wd_us _ _ _
  have h_33 : (wd_up σ_31 y (.inr (4, [.int 0, .ref q_1, .ref q_10, .ref q_22, .null, .null, .null, .null, .null, .null, .null, .null, .null, .null, .null, .null, .null, .null, .null, .int 0, .null, .int 0, .null]))) q_1 = some (.inl (T 0, 121, .inl (fun _ => 0))) := wd_uk h_27 (Ne.symm ne_5)
  have h_34 : (wd_up σ_31 y (.inr (4, [.int 0, .ref q_1, .ref q_10, .ref q_22, .null, .null, .null, .null, .null, .null, .null, .null, .null, .null, .null, .null, .null, .null, .null, .int 0, .null, .int 0, .null]))) q_10 = some (.inl (T 0, 121, .inl (fun _ => 0))) := wd_uk h_29 (Ne.symm ne_14)
  have h_35 : (wd_up σ_31 y (.inr (4, [.int 0, .ref q_1, .ref q_10, .ref q_22, .null, .null, .null, .null, .null, .null, .null, .null, .null, .null, .null, .null, .null, .null, .null, .int 0, .null, .int 0, .null]))) q_22 = some (.inl (T 0, 121, .inl (fun _ => 0))) := wd_uk h_24 (Ne.symm ne_26)
  generalize (wd_up σ_31 y (.inr (4, [.int 0, .ref q_1, .ref q_10, .ref q_22, .null, .null, .null, .null, .null, .null, .null, .null, .null, .null, .null, .null, .null, .null, .null, .int 0, .null, .int 0, .null]))) = σ_36 at h h_32 h_33 h_34 h_35
  refine lv_aload_n hx hb d_M_init_28 rfl (lv_at hl 0 rfl) ?_
  refine lv_bipush (v := 121) hx hb d_M_init_29 (by decide) ?_
  refine wd_newi C h 0 rfl wa_int 121 121 (by decide) (by decide) (by decide) (Nat.le_of_ble_eq_true rfl) (Nat.le_of_ble_eq_true rfl) d_M_init_31 (fun q_37 H hq_38 h => ?_)
  have ne_41 : y ≠ q_37 := wd_nn h_32 hq_38
  have h_40 : (wd_up σ_36 q_37 (.inl (T 0, 121, .inl (fun _ => 0)))) y = some (.inr (4, [.int 0, .ref q_1, .ref q_10, .ref q_22, .null, .null, .null, .null, .null, .null, .null, .null, .null, .null, .null, .null, .null, .null, .null, .int 0, .null, .int 0, .null])) := wd_uk h_32 ne_41
  have ne_43 : q_1 ≠ q_37 := wd_nn h_33 hq_38
  have h_42 : (wd_up σ_36 q_37 (.inl (T 0, 121, .inl (fun _ => 0)))) q_1 = some (.inl (T 0, 121, .inl (fun _ => 0))) := wd_uk h_33 ne_43
  have ne_45 : q_10 ≠ q_37 := wd_nn h_34 hq_38
  have h_44 : (wd_up σ_36 q_37 (.inl (T 0, 121, .inl (fun _ => 0)))) q_10 = some (.inl (T 0, 121, .inl (fun _ => 0))) := wd_uk h_34 ne_45
  have ne_47 : q_22 ≠ q_37 := wd_nn h_35 hq_38
  have h_46 : (wd_up σ_36 q_37 (.inl (T 0, 121, .inl (fun _ => 0)))) q_22 = some (.inl (T 0, 121, .inl (fun _ => 0))) := wd_uk h_35 ne_47
  have h_39 : (wd_up σ_36 q_37 (.inl (T 0, 121, .inl (fun _ => 0)))) q_37 = some (.inl (T 0, 121, .inl (fun _ => 0))) := wd_us _ _ _
  generalize (wd_up σ_36 q_37 (.inl (T 0, 121, .inl (fun _ => 0)))) = σ_48 at h h_40 h_42 h_44 h_46 h_39
  refine wd_putF C h kc_M h_40 4 (by decide) lk_M_19 rfl hname rfl (by rfl) (by rfl) (Nat.le_of_ble_eq_true rfl) d_M_init_33 (fun H locs h => ?_)
  replace h : wd_C D T A s H locs (wd_up σ_48 y (.inr (4, [.int 0, .ref q_1, .ref q_10, .ref q_22, .ref q_37, .null, .null, .null, .null, .null, .null, .null, .null, .null, .null, .null, .null, .null, .null, .int 0, .null, .int 0, .null]))) := h
  have h_49 : (wd_up σ_48 y (.inr (4, [.int 0, .ref q_1, .ref q_10, .ref q_22, .ref q_37, .null, .null, .null, .null, .null, .null, .null, .null, .null, .null, .null, .null, .null, .null, .int 0, .null, .int 0, .null]))) y = some (.inr (4, [.int 0, .ref q_1, .ref q_10, .ref q_22, .ref q_37, .null, .null, .null, .null, .null, .null, .null, .null, .null, .null, .null, .null, .null, .null, .int 0, .null, .int 0, .null])) := wd_us _ _ _
  have h_50 : (wd_up σ_48 y (.inr (4, [.int 0, .ref q_1, .ref q_10, .ref q_22, .ref q_37, .null, .null, .null, .null, .null, .null, .null, .null, .null, .null, .null, .null, .null, .null, .int 0, .null, .int 0, .null]))) q_1 = some (.inl (T 0, 121, .inl (fun _ => 0))) := wd_uk h_42 (Ne.symm ne_5)
  have h_51 : (wd_up σ_48 y (.inr (4, [.int 0, .ref q_1, .ref q_10, .ref q_22, .ref q_37, .null, .null, .null, .null, .null, .null, .null, .null, .null, .null, .null, .null, .null, .null, .int 0, .null, .int 0, .null]))) q_10 = some (.inl (T 0, 121, .inl (fun _ => 0))) := wd_uk h_44 (Ne.symm ne_14)
  have h_52 : (wd_up σ_48 y (.inr (4, [.int 0, .ref q_1, .ref q_10, .ref q_22, .ref q_37, .null, .null, .null, .null, .null, .null, .null, .null, .null, .null, .null, .null, .null, .null, .int 0, .null, .int 0, .null]))) q_22 = some (.inl (T 0, 121, .inl (fun _ => 0))) := wd_uk h_46 (Ne.symm ne_26)
  have h_53 : (wd_up σ_48 y (.inr (4, [.int 0, .ref q_1, .ref q_10, .ref q_22, .ref q_37, .null, .null, .null, .null, .null, .null, .null, .null, .null, .null, .null, .null, .null, .null, .int 0, .null, .int 0, .null]))) q_37 = some (.inl (T 0, 121, .inl (fun _ => 0))) := wd_uk h_39 (Ne.symm ne_41)
  generalize (wd_up σ_48 y (.inr (4, [.int 0, .ref q_1, .ref q_10, .ref q_22, .ref q_37, .null, .null, .null, .null, .null, .null, .null, .null, .null, .null, .null, .null, .null, .null, .int 0, .null, .int 0, .null]))) = σ_54 at h h_49 h_50 h_51 h_52 h_53
  refine lv_aload_n hx hb d_M_init_36 rfl (lv_at hl 0 rfl) ?_
  refine lv_bipush (v := 121) hx hb d_M_init_37 (by decide) ?_
  refine wd_newi C h 0 rfl wa_int 121 121 (by decide) (by decide) (by decide) (Nat.le_of_ble_eq_true rfl) (Nat.le_of_ble_eq_true rfl) d_M_init_39 (fun q_55 H hq_56 h => ?_)
  have ne_59 : y ≠ q_55 := wd_nn h_49 hq_56
  have h_58 : (wd_up σ_54 q_55 (.inl (T 0, 121, .inl (fun _ => 0)))) y = some (.inr (4, [.int 0, .ref q_1, .ref q_10, .ref q_22, .ref q_37, .null, .null, .null, .null, .null, .null, .null, .null, .null, .null, .null, .null, .null, .null, .int 0, .null, .int 0, .null])) := wd_uk h_49 ne_59
  have ne_61 : q_1 ≠ q_55 := wd_nn h_50 hq_56
  have h_60 : (wd_up σ_54 q_55 (.inl (T 0, 121, .inl (fun _ => 0)))) q_1 = some (.inl (T 0, 121, .inl (fun _ => 0))) := wd_uk h_50 ne_61
  have ne_63 : q_10 ≠ q_55 := wd_nn h_51 hq_56
  have h_62 : (wd_up σ_54 q_55 (.inl (T 0, 121, .inl (fun _ => 0)))) q_10 = some (.inl (T 0, 121, .inl (fun _ => 0))) := wd_uk h_51 ne_63
  have ne_65 : q_22 ≠ q_55 := wd_nn h_52 hq_56
  have h_64 : (wd_up σ_54 q_55 (.inl (T 0, 121, .inl (fun _ => 0)))) q_22 = some (.inl (T 0, 121, .inl (fun _ => 0))) := wd_uk h_52 ne_65
  have ne_67 : q_37 ≠ q_55 := wd_nn h_53 hq_56
  have h_66 : (wd_up σ_54 q_55 (.inl (T 0, 121, .inl (fun _ => 0)))) q_37 = some (.inl (T 0, 121, .inl (fun _ => 0))) := wd_uk h_53 ne_67
  have h_57 : (wd_up σ_54 q_55 (.inl (T 0, 121, .inl (fun _ => 0)))) q_55 = some (.inl (T 0, 121, .inl (fun _ => 0))) := wd_us _ _ _
  generalize (wd_up σ_54 q_55 (.inl (T 0, 121, .inl (fun _ => 0)))) = σ_68 at h h_58 h_60 h_62 h_64 h_66 h_57
  refine wd_putF C h kc_M h_58 5 (by decide) lk_M_22 rfl hname rfl (by rfl) (by rfl) (Nat.le_of_ble_eq_true rfl) d_M_init_41 (fun H locs h => ?_)
  replace h : wd_C D T A s H locs (wd_up σ_68 y (.inr (4, [.int 0, .ref q_1, .ref q_10, .ref q_22, .ref q_37, .ref q_55, .null, .null, .null, .null, .null, .null, .null, .null, .null, .null, .null, .null, .null, .int 0, .null, .int 0, .null]))) := h
  have h_69 : (wd_up σ_68 y (.inr (4, [.int 0, .ref q_1, .ref q_10, .ref q_22, .ref q_37, .ref q_55, .null, .null, .null, .null, .null, .null, .null, .null, .null, .null, .null, .null, .null, .int 0, .null, .int 0, .null]))) y = some (.inr (4, [.int 0, .ref q_1, .ref q_10, .ref q_22, .ref q_37, .ref q_55, .null, .null, .null, .null, .null, .null, .null, .null, .null, .null, .null, .null, .null, .int 0, .null, .int 0, .null])) := wd_us _ _ _
  have h_70 : (wd_up σ_68 y (.inr (4, [.int 0, .ref q_1, .ref q_10, .ref q_22, .ref q_37, .ref q_55, .null, .null, .null, .null, .null, .null, .null, .null, .null, .null, .null, .null, .null, .int 0, .null, .int 0, .null]))) q_1 = some (.inl (T 0, 121, .inl (fun _ => 0))) := wd_uk h_60 (Ne.symm ne_5)
  have h_71 : (wd_up σ_68 y (.inr (4, [.int 0, .ref q_1, .ref q_10, .ref q_22, .ref q_37, .ref q_55, .null, .null, .null, .null, .null, .null, .null, .null, .null, .null, .null, .null, .null, .int 0, .null, .int 0, .null]))) q_10 = some (.inl (T 0, 121, .inl (fun _ => 0))) := wd_uk h_62 (Ne.symm ne_14)
  have h_72 : (wd_up σ_68 y (.inr (4, [.int 0, .ref q_1, .ref q_10, .ref q_22, .ref q_37, .ref q_55, .null, .null, .null, .null, .null, .null, .null, .null, .null, .null, .null, .null, .null, .int 0, .null, .int 0, .null]))) q_22 = some (.inl (T 0, 121, .inl (fun _ => 0))) := wd_uk h_64 (Ne.symm ne_26)
  have h_73 : (wd_up σ_68 y (.inr (4, [.int 0, .ref q_1, .ref q_10, .ref q_22, .ref q_37, .ref q_55, .null, .null, .null, .null, .null, .null, .null, .null, .null, .null, .null, .null, .null, .int 0, .null, .int 0, .null]))) q_37 = some (.inl (T 0, 121, .inl (fun _ => 0))) := wd_uk h_66 (Ne.symm ne_41)
  have h_74 : (wd_up σ_68 y (.inr (4, [.int 0, .ref q_1, .ref q_10, .ref q_22, .ref q_37, .ref q_55, .null, .null, .null, .null, .null, .null, .null, .null, .null, .null, .null, .null, .null, .int 0, .null, .int 0, .null]))) q_55 = some (.inl (T 0, 121, .inl (fun _ => 0))) := wd_uk h_57 (Ne.symm ne_59)
  generalize (wd_up σ_68 y (.inr (4, [.int 0, .ref q_1, .ref q_10, .ref q_22, .ref q_37, .ref q_55, .null, .null, .null, .null, .null, .null, .null, .null, .null, .null, .null, .null, .null, .int 0, .null, .int 0, .null]))) = σ_75 at h h_69 h_70 h_71 h_72 h_73 h_74
  refine lv_aload_n hx hb d_M_init_44 rfl (lv_at hl 0 rfl) ?_
  refine lv_bipush (v := 121) hx hb d_M_init_45 (by decide) ?_
  refine wd_newi C h 0 rfl wa_int 121 121 (by decide) (by decide) (by decide) (Nat.le_of_ble_eq_true rfl) (Nat.le_of_ble_eq_true rfl) d_M_init_47 (fun q_76 H hq_77 h => ?_)
  have ne_80 : y ≠ q_76 := wd_nn h_69 hq_77
  have h_79 : (wd_up σ_75 q_76 (.inl (T 0, 121, .inl (fun _ => 0)))) y = some (.inr (4, [.int 0, .ref q_1, .ref q_10, .ref q_22, .ref q_37, .ref q_55, .null, .null, .null, .null, .null, .null, .null, .null, .null, .null, .null, .null, .null, .int 0, .null, .int 0, .null])) := wd_uk h_69 ne_80
  have ne_82 : q_1 ≠ q_76 := wd_nn h_70 hq_77
  have h_81 : (wd_up σ_75 q_76 (.inl (T 0, 121, .inl (fun _ => 0)))) q_1 = some (.inl (T 0, 121, .inl (fun _ => 0))) := wd_uk h_70 ne_82
  have ne_84 : q_10 ≠ q_76 := wd_nn h_71 hq_77
  have h_83 : (wd_up σ_75 q_76 (.inl (T 0, 121, .inl (fun _ => 0)))) q_10 = some (.inl (T 0, 121, .inl (fun _ => 0))) := wd_uk h_71 ne_84
  have ne_86 : q_22 ≠ q_76 := wd_nn h_72 hq_77
  have h_85 : (wd_up σ_75 q_76 (.inl (T 0, 121, .inl (fun _ => 0)))) q_22 = some (.inl (T 0, 121, .inl (fun _ => 0))) := wd_uk h_72 ne_86
  have ne_88 : q_37 ≠ q_76 := wd_nn h_73 hq_77
  have h_87 : (wd_up σ_75 q_76 (.inl (T 0, 121, .inl (fun _ => 0)))) q_37 = some (.inl (T 0, 121, .inl (fun _ => 0))) := wd_uk h_73 ne_88
  have ne_90 : q_55 ≠ q_76 := wd_nn h_74 hq_77
  have h_89 : (wd_up σ_75 q_76 (.inl (T 0, 121, .inl (fun _ => 0)))) q_55 = some (.inl (T 0, 121, .inl (fun _ => 0))) := wd_uk h_74 ne_90
  have h_78 : (wd_up σ_75 q_76 (.inl (T 0, 121, .inl (fun _ => 0)))) q_76 = some (.inl (T 0, 121, .inl (fun _ => 0))) := wd_us _ _ _
  generalize (wd_up σ_75 q_76 (.inl (T 0, 121, .inl (fun _ => 0)))) = σ_91 at h h_79 h_81 h_83 h_85 h_87 h_89 h_78
  refine wd_putF C h kc_M h_79 6 (by decide) lk_M_25 rfl hname rfl (by rfl) (by rfl) (Nat.le_of_ble_eq_true rfl) d_M_init_49 (fun H locs h => ?_)
  replace h : wd_C D T A s H locs (wd_up σ_91 y (.inr (4, [.int 0, .ref q_1, .ref q_10, .ref q_22, .ref q_37, .ref q_55, .ref q_76, .null, .null, .null, .null, .null, .null, .null, .null, .null, .null, .null, .null, .int 0, .null, .int 0, .null]))) := h
  have h_92 : (wd_up σ_91 y (.inr (4, [.int 0, .ref q_1, .ref q_10, .ref q_22, .ref q_37, .ref q_55, .ref q_76, .null, .null, .null, .null, .null, .null, .null, .null, .null, .null, .null, .null, .int 0, .null, .int 0, .null]))) y = some (.inr (4, [.int 0, .ref q_1, .ref q_10, .ref q_22, .ref q_37, .ref q_55, .ref q_76, .null, .null, .null, .null, .null, .null, .null, .null, .null, .null, .null, .null, .int 0, .null, .int 0, .null])) := wd_us _ _ _
  have h_93 : (wd_up σ_91 y (.inr (4, [.int 0, .ref q_1, .ref q_10, .ref q_22, .ref q_37, .ref q_55, .ref q_76, .null, .null, .null, .null, .null, .null, .null, .null, .null, .null, .null, .null, .int 0, .null, .int 0, .null]))) q_1 = some (.inl (T 0, 121, .inl (fun _ => 0))) := wd_uk h_81 (Ne.symm ne_5)
  have h_94 : (wd_up σ_91 y (.inr (4, [.int 0, .ref q_1, .ref q_10, .ref q_22, .ref q_37, .ref q_55, .ref q_76, .null, .null, .null, .null, .null, .null, .null, .null, .null, .null, .null, .null, .int 0, .null, .int 0, .null]))) q_10 = some (.inl (T 0, 121, .inl (fun _ => 0))) := wd_uk h_83 (Ne.symm ne_14)
  have h_95 : (wd_up σ_91 y (.inr (4, [.int 0, .ref q_1, .ref q_10, .ref q_22, .ref q_37, .ref q_55, .ref q_76, .null, .null, .null, .null, .null, .null, .null, .null, .null, .null, .null, .null, .int 0, .null, .int 0, .null]))) q_22 = some (.inl (T 0, 121, .inl (fun _ => 0))) := wd_uk h_85 (Ne.symm ne_26)
  have h_96 : (wd_up σ_91 y (.inr (4, [.int 0, .ref q_1, .ref q_10, .ref q_22, .ref q_37, .ref q_55, .ref q_76, .null, .null, .null, .null, .null, .null, .null, .null, .null, .null, .null, .null, .int 0, .null, .int 0, .null]))) q_37 = some (.inl (T 0, 121, .inl (fun _ => 0))) := wd_uk h_87 (Ne.symm ne_41)
  have h_97 : (wd_up σ_91 y (.inr (4, [.int 0, .ref q_1, .ref q_10, .ref q_22, .ref q_37, .ref q_55, .ref q_76, .null, .null, .null, .null, .null, .null, .null, .null, .null, .null, .null, .null, .int 0, .null, .int 0, .null]))) q_55 = some (.inl (T 0, 121, .inl (fun _ => 0))) := wd_uk h_89 (Ne.symm ne_59)
  have h_98 : (wd_up σ_91 y (.inr (4, [.int 0, .ref q_1, .ref q_10, .ref q_22, .ref q_37, .ref q_55, .ref q_76, .null, .null, .null, .null, .null, .null, .null, .null, .null, .null, .null, .null, .int 0, .null, .int 0, .null]))) q_76 = some (.inl (T 0, 121, .inl (fun _ => 0))) := wd_uk h_78 (Ne.symm ne_80)
  generalize (wd_up σ_91 y (.inr (4, [.int 0, .ref q_1, .ref q_10, .ref q_22, .ref q_37, .ref q_55, .ref q_76, .null, .null, .null, .null, .null, .null, .null, .null, .null, .null, .null, .null, .int 0, .null, .int 0, .null]))) = σ_99 at h h_92 h_93 h_94 h_95 h_96 h_97 h_98
  refine lv_aload_n hx hb d_M_init_52 rfl (lv_at hl 0 rfl) ?_
  refine lv_bipush (v := 121) hx hb d_M_init_53 (by decide) ?_
  refine wd_newz C h 1 rfl wa_boolean 121 121 (by decide) (by decide) (by decide) (Nat.le_of_ble_eq_true rfl) (Nat.le_of_ble_eq_true rfl) d_M_init_55 (fun q_100 H hq_101 h => ?_)
  have ne_104 : y ≠ q_100 := wd_nn h_92 hq_101
  have h_103 : (wd_up σ_99 q_100 (.inl (T 1, 121, .inl (fun _ => 0)))) y = some (.inr (4, [.int 0, .ref q_1, .ref q_10, .ref q_22, .ref q_37, .ref q_55, .ref q_76, .null, .null, .null, .null, .null, .null, .null, .null, .null, .null, .null, .null, .int 0, .null, .int 0, .null])) := wd_uk h_92 ne_104
  have ne_106 : q_1 ≠ q_100 := wd_nn h_93 hq_101
  have h_105 : (wd_up σ_99 q_100 (.inl (T 1, 121, .inl (fun _ => 0)))) q_1 = some (.inl (T 0, 121, .inl (fun _ => 0))) := wd_uk h_93 ne_106
  have ne_108 : q_10 ≠ q_100 := wd_nn h_94 hq_101
  have h_107 : (wd_up σ_99 q_100 (.inl (T 1, 121, .inl (fun _ => 0)))) q_10 = some (.inl (T 0, 121, .inl (fun _ => 0))) := wd_uk h_94 ne_108
  have ne_110 : q_22 ≠ q_100 := wd_nn h_95 hq_101
  have h_109 : (wd_up σ_99 q_100 (.inl (T 1, 121, .inl (fun _ => 0)))) q_22 = some (.inl (T 0, 121, .inl (fun _ => 0))) := wd_uk h_95 ne_110
  have ne_112 : q_37 ≠ q_100 := wd_nn h_96 hq_101
  have h_111 : (wd_up σ_99 q_100 (.inl (T 1, 121, .inl (fun _ => 0)))) q_37 = some (.inl (T 0, 121, .inl (fun _ => 0))) := wd_uk h_96 ne_112
  have ne_114 : q_55 ≠ q_100 := wd_nn h_97 hq_101
  have h_113 : (wd_up σ_99 q_100 (.inl (T 1, 121, .inl (fun _ => 0)))) q_55 = some (.inl (T 0, 121, .inl (fun _ => 0))) := wd_uk h_97 ne_114
  have ne_116 : q_76 ≠ q_100 := wd_nn h_98 hq_101
  have h_115 : (wd_up σ_99 q_100 (.inl (T 1, 121, .inl (fun _ => 0)))) q_76 = some (.inl (T 0, 121, .inl (fun _ => 0))) := wd_uk h_98 ne_116
  have h_102 : (wd_up σ_99 q_100 (.inl (T 1, 121, .inl (fun _ => 0)))) q_100 = some (.inl (T 1, 121, .inl (fun _ => 0))) := wd_us _ _ _
  generalize (wd_up σ_99 q_100 (.inl (T 1, 121, .inl (fun _ => 0)))) = σ_117 at h h_103 h_105 h_107 h_109 h_111 h_113 h_115 h_102
  refine wd_putF C h kc_M h_103 7 (by decide) lk_M_28 rfl hname rfl (by rfl) (by rfl) (Nat.le_of_ble_eq_true rfl) d_M_init_57 (fun H locs h => ?_)
  replace h : wd_C D T A s H locs (wd_up σ_117 y (.inr (4, [.int 0, .ref q_1, .ref q_10, .ref q_22, .ref q_37, .ref q_55, .ref q_76, .ref q_100, .null, .null, .null, .null, .null, .null, .null, .null, .null, .null, .null, .int 0, .null, .int 0, .null]))) := h
  have h_118 : (wd_up σ_117 y (.inr (4, [.int 0, .ref q_1, .ref q_10, .ref q_22, .ref q_37, .ref q_55, .ref q_76, .ref q_100, .null, .null, .null, .null, .null, .null, .null, .null, .null, .null, .null, .int 0, .null, .int 0, .null]))) y = some (.inr (4, [.int 0, .ref q_1, .ref q_10, .ref q_22, .ref q_37, .ref q_55, .ref q_76, .ref q_100, .null, .null, .null, .null, .null, .null, .null, .null, .null, .null, .null, .int 0, .null, .int 0, .null])) := wd_us _ _ _
  have h_119 : (wd_up σ_117 y (.inr (4, [.int 0, .ref q_1, .ref q_10, .ref q_22, .ref q_37, .ref q_55, .ref q_76, .ref q_100, .null, .null, .null, .null, .null, .null, .null, .null, .null, .null, .null, .int 0, .null, .int 0, .null]))) q_1 = some (.inl (T 0, 121, .inl (fun _ => 0))) := wd_uk h_105 (Ne.symm ne_5)
  have h_120 : (wd_up σ_117 y (.inr (4, [.int 0, .ref q_1, .ref q_10, .ref q_22, .ref q_37, .ref q_55, .ref q_76, .ref q_100, .null, .null, .null, .null, .null, .null, .null, .null, .null, .null, .null, .int 0, .null, .int 0, .null]))) q_10 = some (.inl (T 0, 121, .inl (fun _ => 0))) := wd_uk h_107 (Ne.symm ne_14)
  have h_121 : (wd_up σ_117 y (.inr (4, [.int 0, .ref q_1, .ref q_10, .ref q_22, .ref q_37, .ref q_55, .ref q_76, .ref q_100, .null, .null, .null, .null, .null, .null, .null, .null, .null, .null, .null, .int 0, .null, .int 0, .null]))) q_22 = some (.inl (T 0, 121, .inl (fun _ => 0))) := wd_uk h_109 (Ne.symm ne_26)
  have h_122 : (wd_up σ_117 y (.inr (4, [.int 0, .ref q_1, .ref q_10, .ref q_22, .ref q_37, .ref q_55, .ref q_76, .ref q_100, .null, .null, .null, .null, .null, .null, .null, .null, .null, .null, .null, .int 0, .null, .int 0, .null]))) q_37 = some (.inl (T 0, 121, .inl (fun _ => 0))) := wd_uk h_111 (Ne.symm ne_41)
  have h_123 : (wd_up σ_117 y (.inr (4, [.int 0, .ref q_1, .ref q_10, .ref q_22, .ref q_37, .ref q_55, .ref q_76, .ref q_100, .null, .null, .null, .null, .null, .null, .null, .null, .null, .null, .null, .int 0, .null, .int 0, .null]))) q_55 = some (.inl (T 0, 121, .inl (fun _ => 0))) := wd_uk h_113 (Ne.symm ne_59)
  have h_124 : (wd_up σ_117 y (.inr (4, [.int 0, .ref q_1, .ref q_10, .ref q_22, .ref q_37, .ref q_55, .ref q_76, .ref q_100, .null, .null, .null, .null, .null, .null, .null, .null, .null, .null, .null, .int 0, .null, .int 0, .null]))) q_76 = some (.inl (T 0, 121, .inl (fun _ => 0))) := wd_uk h_115 (Ne.symm ne_80)
  have h_125 : (wd_up σ_117 y (.inr (4, [.int 0, .ref q_1, .ref q_10, .ref q_22, .ref q_37, .ref q_55, .ref q_76, .ref q_100, .null, .null, .null, .null, .null, .null, .null, .null, .null, .null, .null, .int 0, .null, .int 0, .null]))) q_100 = some (.inl (T 1, 121, .inl (fun _ => 0))) := wd_uk h_102 (Ne.symm ne_104)
  generalize (wd_up σ_117 y (.inr (4, [.int 0, .ref q_1, .ref q_10, .ref q_22, .ref q_37, .ref q_55, .ref q_76, .ref q_100, .null, .null, .null, .null, .null, .null, .null, .null, .null, .null, .null, .int 0, .null, .int 0, .null]))) = σ_126 at h h_118 h_119 h_120 h_121 h_122 h_123 h_124 h_125
  refine lv_aload_n hx hb d_M_init_60 rfl (lv_at hl 0 rfl) ?_
  refine lv_bipush (v := 121) hx hb d_M_init_61 (by decide) ?_
  refine wd_newi C h 0 rfl wa_int 121 121 (by decide) (by decide) (by decide) (Nat.le_of_ble_eq_true rfl) (Nat.le_of_ble_eq_true rfl) d_M_init_63 (fun q_127 H hq_128 h => ?_)
  have ne_131 : y ≠ q_127 := wd_nn h_118 hq_128
  have h_130 : (wd_up σ_126 q_127 (.inl (T 0, 121, .inl (fun _ => 0)))) y = some (.inr (4, [.int 0, .ref q_1, .ref q_10, .ref q_22, .ref q_37, .ref q_55, .ref q_76, .ref q_100, .null, .null, .null, .null, .null, .null, .null, .null, .null, .null, .null, .int 0, .null, .int 0, .null])) := wd_uk h_118 ne_131
  have ne_133 : q_1 ≠ q_127 := wd_nn h_119 hq_128
  have h_132 : (wd_up σ_126 q_127 (.inl (T 0, 121, .inl (fun _ => 0)))) q_1 = some (.inl (T 0, 121, .inl (fun _ => 0))) := wd_uk h_119 ne_133
  have ne_135 : q_10 ≠ q_127 := wd_nn h_120 hq_128
  have h_134 : (wd_up σ_126 q_127 (.inl (T 0, 121, .inl (fun _ => 0)))) q_10 = some (.inl (T 0, 121, .inl (fun _ => 0))) := wd_uk h_120 ne_135
  have ne_137 : q_22 ≠ q_127 := wd_nn h_121 hq_128
  have h_136 : (wd_up σ_126 q_127 (.inl (T 0, 121, .inl (fun _ => 0)))) q_22 = some (.inl (T 0, 121, .inl (fun _ => 0))) := wd_uk h_121 ne_137
  have ne_139 : q_37 ≠ q_127 := wd_nn h_122 hq_128
  have h_138 : (wd_up σ_126 q_127 (.inl (T 0, 121, .inl (fun _ => 0)))) q_37 = some (.inl (T 0, 121, .inl (fun _ => 0))) := wd_uk h_122 ne_139
  have ne_141 : q_55 ≠ q_127 := wd_nn h_123 hq_128
  have h_140 : (wd_up σ_126 q_127 (.inl (T 0, 121, .inl (fun _ => 0)))) q_55 = some (.inl (T 0, 121, .inl (fun _ => 0))) := wd_uk h_123 ne_141
  have ne_143 : q_76 ≠ q_127 := wd_nn h_124 hq_128
  have h_142 : (wd_up σ_126 q_127 (.inl (T 0, 121, .inl (fun _ => 0)))) q_76 = some (.inl (T 0, 121, .inl (fun _ => 0))) := wd_uk h_124 ne_143
  have ne_145 : q_100 ≠ q_127 := wd_nn h_125 hq_128
  have h_144 : (wd_up σ_126 q_127 (.inl (T 0, 121, .inl (fun _ => 0)))) q_100 = some (.inl (T 1, 121, .inl (fun _ => 0))) := wd_uk h_125 ne_145
  have h_129 : (wd_up σ_126 q_127 (.inl (T 0, 121, .inl (fun _ => 0)))) q_127 = some (.inl (T 0, 121, .inl (fun _ => 0))) := wd_us _ _ _
  generalize (wd_up σ_126 q_127 (.inl (T 0, 121, .inl (fun _ => 0)))) = σ_146 at h h_130 h_132 h_134 h_136 h_138 h_140 h_142 h_144 h_129
  refine wd_putF C h kc_M h_130 8 (by decide) lk_M_32 rfl hname rfl (by rfl) (by rfl) (Nat.le_of_ble_eq_true rfl) d_M_init_65 (fun H locs h => ?_)
  replace h : wd_C D T A s H locs (wd_up σ_146 y (.inr (4, [.int 0, .ref q_1, .ref q_10, .ref q_22, .ref q_37, .ref q_55, .ref q_76, .ref q_100, .ref q_127, .null, .null, .null, .null, .null, .null, .null, .null, .null, .null, .int 0, .null, .int 0, .null]))) := h
  have h_147 : (wd_up σ_146 y (.inr (4, [.int 0, .ref q_1, .ref q_10, .ref q_22, .ref q_37, .ref q_55, .ref q_76, .ref q_100, .ref q_127, .null, .null, .null, .null, .null, .null, .null, .null, .null, .null, .int 0, .null, .int 0, .null]))) y = some (.inr (4, [.int 0, .ref q_1, .ref q_10, .ref q_22, .ref q_37, .ref q_55, .ref q_76, .ref q_100, .ref q_127, .null, .null, .null, .null, .null, .null, .null, .null, .null, .null, .int 0, .null, .int 0, .null])) := wd_us _ _ _
  have h_148 : (wd_up σ_146 y (.inr (4, [.int 0, .ref q_1, .ref q_10, .ref q_22, .ref q_37, .ref q_55, .ref q_76, .ref q_100, .ref q_127, .null, .null, .null, .null, .null, .null, .null, .null, .null, .null, .int 0, .null, .int 0, .null]))) q_1 = some (.inl (T 0, 121, .inl (fun _ => 0))) := wd_uk h_132 (Ne.symm ne_5)
  have h_149 : (wd_up σ_146 y (.inr (4, [.int 0, .ref q_1, .ref q_10, .ref q_22, .ref q_37, .ref q_55, .ref q_76, .ref q_100, .ref q_127, .null, .null, .null, .null, .null, .null, .null, .null, .null, .null, .int 0, .null, .int 0, .null]))) q_10 = some (.inl (T 0, 121, .inl (fun _ => 0))) := wd_uk h_134 (Ne.symm ne_14)
  have h_150 : (wd_up σ_146 y (.inr (4, [.int 0, .ref q_1, .ref q_10, .ref q_22, .ref q_37, .ref q_55, .ref q_76, .ref q_100, .ref q_127, .null, .null, .null, .null, .null, .null, .null, .null, .null, .null, .int 0, .null, .int 0, .null]))) q_22 = some (.inl (T 0, 121, .inl (fun _ => 0))) := wd_uk h_136 (Ne.symm ne_26)
  have h_151 : (wd_up σ_146 y (.inr (4, [.int 0, .ref q_1, .ref q_10, .ref q_22, .ref q_37, .ref q_55, .ref q_76, .ref q_100, .ref q_127, .null, .null, .null, .null, .null, .null, .null, .null, .null, .null, .int 0, .null, .int 0, .null]))) q_37 = some (.inl (T 0, 121, .inl (fun _ => 0))) := wd_uk h_138 (Ne.symm ne_41)
  have h_152 : (wd_up σ_146 y (.inr (4, [.int 0, .ref q_1, .ref q_10, .ref q_22, .ref q_37, .ref q_55, .ref q_76, .ref q_100, .ref q_127, .null, .null, .null, .null, .null, .null, .null, .null, .null, .null, .int 0, .null, .int 0, .null]))) q_55 = some (.inl (T 0, 121, .inl (fun _ => 0))) := wd_uk h_140 (Ne.symm ne_59)
  have h_153 : (wd_up σ_146 y (.inr (4, [.int 0, .ref q_1, .ref q_10, .ref q_22, .ref q_37, .ref q_55, .ref q_76, .ref q_100, .ref q_127, .null, .null, .null, .null, .null, .null, .null, .null, .null, .null, .int 0, .null, .int 0, .null]))) q_76 = some (.inl (T 0, 121, .inl (fun _ => 0))) := wd_uk h_142 (Ne.symm ne_80)
  have h_154 : (wd_up σ_146 y (.inr (4, [.int 0, .ref q_1, .ref q_10, .ref q_22, .ref q_37, .ref q_55, .ref q_76, .ref q_100, .ref q_127, .null, .null, .null, .null, .null, .null, .null, .null, .null, .null, .int 0, .null, .int 0, .null]))) q_100 = some (.inl (T 1, 121, .inl (fun _ => 0))) := wd_uk h_144 (Ne.symm ne_104)
  have h_155 : (wd_up σ_146 y (.inr (4, [.int 0, .ref q_1, .ref q_10, .ref q_22, .ref q_37, .ref q_55, .ref q_76, .ref q_100, .ref q_127, .null, .null, .null, .null, .null, .null, .null, .null, .null, .null, .int 0, .null, .int 0, .null]))) q_127 = some (.inl (T 0, 121, .inl (fun _ => 0))) := wd_uk h_129 (Ne.symm ne_131)
  generalize (wd_up σ_146 y (.inr (4, [.int 0, .ref q_1, .ref q_10, .ref q_22, .ref q_37, .ref q_55, .ref q_76, .ref q_100, .ref q_127, .null, .null, .null, .null, .null, .null, .null, .null, .null, .null, .int 0, .null, .int 0, .null]))) = σ_156 at h h_147 h_148 h_149 h_150 h_151 h_152 h_153 h_154 h_155
  refine lv_aload_n hx hb d_M_init_68 rfl (lv_at hl 0 rfl) ?_
  refine lv_bipush (v := 121) hx hb d_M_init_69 (by decide) ?_
  refine wd_newi C h 0 rfl wa_int 121 121 (by decide) (by decide) (by decide) (Nat.le_of_ble_eq_true rfl) (Nat.le_of_ble_eq_true rfl) d_M_init_71 (fun q_157 H hq_158 h => ?_)
  have ne_161 : y ≠ q_157 := wd_nn h_147 hq_158
  have h_160 : (wd_up σ_156 q_157 (.inl (T 0, 121, .inl (fun _ => 0)))) y = some (.inr (4, [.int 0, .ref q_1, .ref q_10, .ref q_22, .ref q_37, .ref q_55, .ref q_76, .ref q_100, .ref q_127, .null, .null, .null, .null, .null, .null, .null, .null, .null, .null, .int 0, .null, .int 0, .null])) := wd_uk h_147 ne_161
  have ne_163 : q_1 ≠ q_157 := wd_nn h_148 hq_158
  have h_162 : (wd_up σ_156 q_157 (.inl (T 0, 121, .inl (fun _ => 0)))) q_1 = some (.inl (T 0, 121, .inl (fun _ => 0))) := wd_uk h_148 ne_163
  have ne_165 : q_10 ≠ q_157 := wd_nn h_149 hq_158
  have h_164 : (wd_up σ_156 q_157 (.inl (T 0, 121, .inl (fun _ => 0)))) q_10 = some (.inl (T 0, 121, .inl (fun _ => 0))) := wd_uk h_149 ne_165
  have ne_167 : q_22 ≠ q_157 := wd_nn h_150 hq_158
  have h_166 : (wd_up σ_156 q_157 (.inl (T 0, 121, .inl (fun _ => 0)))) q_22 = some (.inl (T 0, 121, .inl (fun _ => 0))) := wd_uk h_150 ne_167
  have ne_169 : q_37 ≠ q_157 := wd_nn h_151 hq_158
  have h_168 : (wd_up σ_156 q_157 (.inl (T 0, 121, .inl (fun _ => 0)))) q_37 = some (.inl (T 0, 121, .inl (fun _ => 0))) := wd_uk h_151 ne_169
  have ne_171 : q_55 ≠ q_157 := wd_nn h_152 hq_158
  have h_170 : (wd_up σ_156 q_157 (.inl (T 0, 121, .inl (fun _ => 0)))) q_55 = some (.inl (T 0, 121, .inl (fun _ => 0))) := wd_uk h_152 ne_171
  have ne_173 : q_76 ≠ q_157 := wd_nn h_153 hq_158
  have h_172 : (wd_up σ_156 q_157 (.inl (T 0, 121, .inl (fun _ => 0)))) q_76 = some (.inl (T 0, 121, .inl (fun _ => 0))) := wd_uk h_153 ne_173
  have ne_175 : q_100 ≠ q_157 := wd_nn h_154 hq_158
  have h_174 : (wd_up σ_156 q_157 (.inl (T 0, 121, .inl (fun _ => 0)))) q_100 = some (.inl (T 1, 121, .inl (fun _ => 0))) := wd_uk h_154 ne_175
  have ne_177 : q_127 ≠ q_157 := wd_nn h_155 hq_158
  have h_176 : (wd_up σ_156 q_157 (.inl (T 0, 121, .inl (fun _ => 0)))) q_127 = some (.inl (T 0, 121, .inl (fun _ => 0))) := wd_uk h_155 ne_177
  have h_159 : (wd_up σ_156 q_157 (.inl (T 0, 121, .inl (fun _ => 0)))) q_157 = some (.inl (T 0, 121, .inl (fun _ => 0))) := wd_us _ _ _
  generalize (wd_up σ_156 q_157 (.inl (T 0, 121, .inl (fun _ => 0)))) = σ_178 at h h_160 h_162 h_164 h_166 h_168 h_170 h_172 h_174 h_176 h_159
  refine wd_putF C h kc_M h_160 9 (by decide) lk_M_35 rfl hname rfl (by rfl) (by rfl) (Nat.le_of_ble_eq_true rfl) d_M_init_73 (fun H locs h => ?_)
  replace h : wd_C D T A s H locs (wd_up σ_178 y (.inr (4, [.int 0, .ref q_1, .ref q_10, .ref q_22, .ref q_37, .ref q_55, .ref q_76, .ref q_100, .ref q_127, .ref q_157, .null, .null, .null, .null, .null, .null, .null, .null, .null, .int 0, .null, .int 0, .null]))) := h
  have h_179 : (wd_up σ_178 y (.inr (4, [.int 0, .ref q_1, .ref q_10, .ref q_22, .ref q_37, .ref q_55, .ref q_76, .ref q_100, .ref q_127, .ref q_157, .null, .null, .null, .null, .null, .null, .null, .null, .null, .int 0, .null, .int 0, .null]))) y = some (.inr (4, [.int 0, .ref q_1, .ref q_10, .ref q_22, .ref q_37, .ref q_55, .ref q_76, .ref q_100, .ref q_127, .ref q_157, .null, .null, .null, .null, .null, .null, .null, .null, .null, .int 0, .null, .int 0, .null])) := wd_us _ _ _
  have h_180 : (wd_up σ_178 y (.inr (4, [.int 0, .ref q_1, .ref q_10, .ref q_22, .ref q_37, .ref q_55, .ref q_76, .ref q_100, .ref q_127, .ref q_157, .null, .null, .null, .null, .null, .null, .null, .null, .null, .int 0, .null, .int 0, .null]))) q_1 = some (.inl (T 0, 121, .inl (fun _ => 0))) := wd_uk h_162 (Ne.symm ne_5)
  have h_181 : (wd_up σ_178 y (.inr (4, [.int 0, .ref q_1, .ref q_10, .ref q_22, .ref q_37, .ref q_55, .ref q_76, .ref q_100, .ref q_127, .ref q_157, .null, .null, .null, .null, .null, .null, .null, .null, .null, .int 0, .null, .int 0, .null]))) q_10 = some (.inl (T 0, 121, .inl (fun _ => 0))) := wd_uk h_164 (Ne.symm ne_14)
  have h_182 : (wd_up σ_178 y (.inr (4, [.int 0, .ref q_1, .ref q_10, .ref q_22, .ref q_37, .ref q_55, .ref q_76, .ref q_100, .ref q_127, .ref q_157, .null, .null, .null, .null, .null, .null, .null, .null, .null, .int 0, .null, .int 0, .null]))) q_22 = some (.inl (T 0, 121, .inl (fun _ => 0))) := wd_uk h_166 (Ne.symm ne_26)
  have h_183 : (wd_up σ_178 y (.inr (4, [.int 0, .ref q_1, .ref q_10, .ref q_22, .ref q_37, .ref q_55, .ref q_76, .ref q_100, .ref q_127, .ref q_157, .null, .null, .null, .null, .null, .null, .null, .null, .null, .int 0, .null, .int 0, .null]))) q_37 = some (.inl (T 0, 121, .inl (fun _ => 0))) := wd_uk h_168 (Ne.symm ne_41)
  have h_184 : (wd_up σ_178 y (.inr (4, [.int 0, .ref q_1, .ref q_10, .ref q_22, .ref q_37, .ref q_55, .ref q_76, .ref q_100, .ref q_127, .ref q_157, .null, .null, .null, .null, .null, .null, .null, .null, .null, .int 0, .null, .int 0, .null]))) q_55 = some (.inl (T 0, 121, .inl (fun _ => 0))) := wd_uk h_170 (Ne.symm ne_59)
  have h_185 : (wd_up σ_178 y (.inr (4, [.int 0, .ref q_1, .ref q_10, .ref q_22, .ref q_37, .ref q_55, .ref q_76, .ref q_100, .ref q_127, .ref q_157, .null, .null, .null, .null, .null, .null, .null, .null, .null, .int 0, .null, .int 0, .null]))) q_76 = some (.inl (T 0, 121, .inl (fun _ => 0))) := wd_uk h_172 (Ne.symm ne_80)
  have h_186 : (wd_up σ_178 y (.inr (4, [.int 0, .ref q_1, .ref q_10, .ref q_22, .ref q_37, .ref q_55, .ref q_76, .ref q_100, .ref q_127, .ref q_157, .null, .null, .null, .null, .null, .null, .null, .null, .null, .int 0, .null, .int 0, .null]))) q_100 = some (.inl (T 1, 121, .inl (fun _ => 0))) := wd_uk h_174 (Ne.symm ne_104)
  have h_187 : (wd_up σ_178 y (.inr (4, [.int 0, .ref q_1, .ref q_10, .ref q_22, .ref q_37, .ref q_55, .ref q_76, .ref q_100, .ref q_127, .ref q_157, .null, .null, .null, .null, .null, .null, .null, .null, .null, .int 0, .null, .int 0, .null]))) q_127 = some (.inl (T 0, 121, .inl (fun _ => 0))) := wd_uk h_176 (Ne.symm ne_131)
  have h_188 : (wd_up σ_178 y (.inr (4, [.int 0, .ref q_1, .ref q_10, .ref q_22, .ref q_37, .ref q_55, .ref q_76, .ref q_100, .ref q_127, .ref q_157, .null, .null, .null, .null, .null, .null, .null, .null, .null, .int 0, .null, .int 0, .null]))) q_157 = some (.inl (T 0, 121, .inl (fun _ => 0))) := wd_uk h_159 (Ne.symm ne_161)
  generalize (wd_up σ_178 y (.inr (4, [.int 0, .ref q_1, .ref q_10, .ref q_22, .ref q_37, .ref q_55, .ref q_76, .ref q_100, .ref q_127, .ref q_157, .null, .null, .null, .null, .null, .null, .null, .null, .null, .int 0, .null, .int 0, .null]))) = σ_189 at h h_179 h_180 h_181 h_182 h_183 h_184 h_185 h_186 h_187 h_188
  refine lv_aload_n hx hb d_M_init_76 rfl (lv_at hl 0 rfl) ?_
  refine lv_bipush (v := 121) hx hb d_M_init_77 (by decide) ?_
  refine wd_newi C h 0 rfl wa_int 121 121 (by decide) (by decide) (by decide) (Nat.le_of_ble_eq_true rfl) (Nat.le_of_ble_eq_true rfl) d_M_init_79 (fun q_190 H hq_191 h => ?_)
  have ne_194 : y ≠ q_190 := wd_nn h_179 hq_191
  have h_193 : (wd_up σ_189 q_190 (.inl (T 0, 121, .inl (fun _ => 0)))) y = some (.inr (4, [.int 0, .ref q_1, .ref q_10, .ref q_22, .ref q_37, .ref q_55, .ref q_76, .ref q_100, .ref q_127, .ref q_157, .null, .null, .null, .null, .null, .null, .null, .null, .null, .int 0, .null, .int 0, .null])) := wd_uk h_179 ne_194
  have ne_196 : q_1 ≠ q_190 := wd_nn h_180 hq_191
  have h_195 : (wd_up σ_189 q_190 (.inl (T 0, 121, .inl (fun _ => 0)))) q_1 = some (.inl (T 0, 121, .inl (fun _ => 0))) := wd_uk h_180 ne_196
  have ne_198 : q_10 ≠ q_190 := wd_nn h_181 hq_191
  have h_197 : (wd_up σ_189 q_190 (.inl (T 0, 121, .inl (fun _ => 0)))) q_10 = some (.inl (T 0, 121, .inl (fun _ => 0))) := wd_uk h_181 ne_198
  have ne_200 : q_22 ≠ q_190 := wd_nn h_182 hq_191
  have h_199 : (wd_up σ_189 q_190 (.inl (T 0, 121, .inl (fun _ => 0)))) q_22 = some (.inl (T 0, 121, .inl (fun _ => 0))) := wd_uk h_182 ne_200
  have ne_202 : q_37 ≠ q_190 := wd_nn h_183 hq_191
  have h_201 : (wd_up σ_189 q_190 (.inl (T 0, 121, .inl (fun _ => 0)))) q_37 = some (.inl (T 0, 121, .inl (fun _ => 0))) := wd_uk h_183 ne_202
  have ne_204 : q_55 ≠ q_190 := wd_nn h_184 hq_191
  have h_203 : (wd_up σ_189 q_190 (.inl (T 0, 121, .inl (fun _ => 0)))) q_55 = some (.inl (T 0, 121, .inl (fun _ => 0))) := wd_uk h_184 ne_204
  have ne_206 : q_76 ≠ q_190 := wd_nn h_185 hq_191
  have h_205 : (wd_up σ_189 q_190 (.inl (T 0, 121, .inl (fun _ => 0)))) q_76 = some (.inl (T 0, 121, .inl (fun _ => 0))) := wd_uk h_185 ne_206
  have ne_208 : q_100 ≠ q_190 := wd_nn h_186 hq_191
  have h_207 : (wd_up σ_189 q_190 (.inl (T 0, 121, .inl (fun _ => 0)))) q_100 = some (.inl (T 1, 121, .inl (fun _ => 0))) := wd_uk h_186 ne_208
  have ne_210 : q_127 ≠ q_190 := wd_nn h_187 hq_191
  have h_209 : (wd_up σ_189 q_190 (.inl (T 0, 121, .inl (fun _ => 0)))) q_127 = some (.inl (T 0, 121, .inl (fun _ => 0))) := wd_uk h_187 ne_210
  have ne_212 : q_157 ≠ q_190 := wd_nn h_188 hq_191
  have h_211 : (wd_up σ_189 q_190 (.inl (T 0, 121, .inl (fun _ => 0)))) q_157 = some (.inl (T 0, 121, .inl (fun _ => 0))) := wd_uk h_188 ne_212
  have h_192 : (wd_up σ_189 q_190 (.inl (T 0, 121, .inl (fun _ => 0)))) q_190 = some (.inl (T 0, 121, .inl (fun _ => 0))) := wd_us _ _ _
  generalize (wd_up σ_189 q_190 (.inl (T 0, 121, .inl (fun _ => 0)))) = σ_213 at h h_193 h_195 h_197 h_199 h_201 h_203 h_205 h_207 h_209 h_211 h_192
  refine wd_putF C h kc_M h_193 10 (by decide) lk_M_38 rfl hname rfl (by rfl) (by rfl) (Nat.le_of_ble_eq_true rfl) d_M_init_81 (fun H locs h => ?_)
  replace h : wd_C D T A s H locs (wd_up σ_213 y (.inr (4, [.int 0, .ref q_1, .ref q_10, .ref q_22, .ref q_37, .ref q_55, .ref q_76, .ref q_100, .ref q_127, .ref q_157, .ref q_190, .null, .null, .null, .null, .null, .null, .null, .null, .int 0, .null, .int 0, .null]))) := h
  have h_214 : (wd_up σ_213 y (.inr (4, [.int 0, .ref q_1, .ref q_10, .ref q_22, .ref q_37, .ref q_55, .ref q_76, .ref q_100, .ref q_127, .ref q_157, .ref q_190, .null, .null, .null, .null, .null, .null, .null, .null, .int 0, .null, .int 0, .null]))) y = some (.inr (4, [.int 0, .ref q_1, .ref q_10, .ref q_22, .ref q_37, .ref q_55, .ref q_76, .ref q_100, .ref q_127, .ref q_157, .ref q_190, .null, .null, .null, .null, .null, .null, .null, .null, .int 0, .null, .int 0, .null])) := wd_us _ _ _
  have h_215 : (wd_up σ_213 y (.inr (4, [.int 0, .ref q_1, .ref q_10, .ref q_22, .ref q_37, .ref q_55, .ref q_76, .ref q_100, .ref q_127, .ref q_157, .ref q_190, .null, .null, .null, .null, .null, .null, .null, .null, .int 0, .null, .int 0, .null]))) q_1 = some (.inl (T 0, 121, .inl (fun _ => 0))) := wd_uk h_195 (Ne.symm ne_5)
  have h_216 : (wd_up σ_213 y (.inr (4, [.int 0, .ref q_1, .ref q_10, .ref q_22, .ref q_37, .ref q_55, .ref q_76, .ref q_100, .ref q_127, .ref q_157, .ref q_190, .null, .null, .null, .null, .null, .null, .null, .null, .int 0, .null, .int 0, .null]))) q_10 = some (.inl (T 0, 121, .inl (fun _ => 0))) := wd_uk h_197 (Ne.symm ne_14)
  have h_217 : (wd_up σ_213 y (.inr (4, [.int 0, .ref q_1, .ref q_10, .ref q_22, .ref q_37, .ref q_55, .ref q_76, .ref q_100, .ref q_127, .ref q_157, .ref q_190, .null, .null, .null, .null, .null, .null, .null, .null, .int 0, .null, .int 0, .null]))) q_22 = some (.inl (T 0, 121, .inl (fun _ => 0))) := wd_uk h_199 (Ne.symm ne_26)
  have h_218 : (wd_up σ_213 y (.inr (4, [.int 0, .ref q_1, .ref q_10, .ref q_22, .ref q_37, .ref q_55, .ref q_76, .ref q_100, .ref q_127, .ref q_157, .ref q_190, .null, .null, .null, .null, .null, .null, .null, .null, .int 0, .null, .int 0, .null]))) q_37 = some (.inl (T 0, 121, .inl (fun _ => 0))) := wd_uk h_201 (Ne.symm ne_41)
  have h_219 : (wd_up σ_213 y (.inr (4, [.int 0, .ref q_1, .ref q_10, .ref q_22, .ref q_37, .ref q_55, .ref q_76, .ref q_100, .ref q_127, .ref q_157, .ref q_190, .null, .null, .null, .null, .null, .null, .null, .null, .int 0, .null, .int 0, .null]))) q_55 = some (.inl (T 0, 121, .inl (fun _ => 0))) := wd_uk h_203 (Ne.symm ne_59)
  have h_220 : (wd_up σ_213 y (.inr (4, [.int 0, .ref q_1, .ref q_10, .ref q_22, .ref q_37, .ref q_55, .ref q_76, .ref q_100, .ref q_127, .ref q_157, .ref q_190, .null, .null, .null, .null, .null, .null, .null, .null, .int 0, .null, .int 0, .null]))) q_76 = some (.inl (T 0, 121, .inl (fun _ => 0))) := wd_uk h_205 (Ne.symm ne_80)
  have h_221 : (wd_up σ_213 y (.inr (4, [.int 0, .ref q_1, .ref q_10, .ref q_22, .ref q_37, .ref q_55, .ref q_76, .ref q_100, .ref q_127, .ref q_157, .ref q_190, .null, .null, .null, .null, .null, .null, .null, .null, .int 0, .null, .int 0, .null]))) q_100 = some (.inl (T 1, 121, .inl (fun _ => 0))) := wd_uk h_207 (Ne.symm ne_104)
  have h_222 : (wd_up σ_213 y (.inr (4, [.int 0, .ref q_1, .ref q_10, .ref q_22, .ref q_37, .ref q_55, .ref q_76, .ref q_100, .ref q_127, .ref q_157, .ref q_190, .null, .null, .null, .null, .null, .null, .null, .null, .int 0, .null, .int 0, .null]))) q_127 = some (.inl (T 0, 121, .inl (fun _ => 0))) := wd_uk h_209 (Ne.symm ne_131)
  have h_223 : (wd_up σ_213 y (.inr (4, [.int 0, .ref q_1, .ref q_10, .ref q_22, .ref q_37, .ref q_55, .ref q_76, .ref q_100, .ref q_127, .ref q_157, .ref q_190, .null, .null, .null, .null, .null, .null, .null, .null, .int 0, .null, .int 0, .null]))) q_157 = some (.inl (T 0, 121, .inl (fun _ => 0))) := wd_uk h_211 (Ne.symm ne_161)
  have h_224 : (wd_up σ_213 y (.inr (4, [.int 0, .ref q_1, .ref q_10, .ref q_22, .ref q_37, .ref q_55, .ref q_76, .ref q_100, .ref q_127, .ref q_157, .ref q_190, .null, .null, .null, .null, .null, .null, .null, .null, .int 0, .null, .int 0, .null]))) q_190 = some (.inl (T 0, 121, .inl (fun _ => 0))) := wd_uk h_192 (Ne.symm ne_194)
  generalize (wd_up σ_213 y (.inr (4, [.int 0, .ref q_1, .ref q_10, .ref q_22, .ref q_37, .ref q_55, .ref q_76, .ref q_100, .ref q_127, .ref q_157, .ref q_190, .null, .null, .null, .null, .null, .null, .null, .null, .int 0, .null, .int 0, .null]))) = σ_225 at h h_214 h_215 h_216 h_217 h_218 h_219 h_220 h_221 h_222 h_223 h_224
  refine lv_aload_n hx hb d_M_init_84 rfl (lv_at hl 0 rfl) ?_
  refine lv_bipush (v := 121) hx hb d_M_init_85 (by decide) ?_
  refine wd_newi C h 0 rfl wa_int 121 121 (by decide) (by decide) (by decide) (Nat.le_of_ble_eq_true rfl) (Nat.le_of_ble_eq_true rfl) d_M_init_87 (fun q_226 H hq_227 h => ?_)
  have ne_230 : y ≠ q_226 := wd_nn h_214 hq_227
  have h_229 : (wd_up σ_225 q_226 (.inl (T 0, 121, .inl (fun _ => 0)))) y = some (.inr (4, [.int 0, .ref q_1, .ref q_10, .ref q_22, .ref q_37, .ref q_55, .ref q_76, .ref q_100, .ref q_127, .ref q_157, .ref q_190, .null, .null, .null, .null, .null, .null, .null, .null, .int 0, .null, .int 0, .null])) := wd_uk h_214 ne_230
  have ne_232 : q_1 ≠ q_226 := wd_nn h_215 hq_227
  have h_231 : (wd_up σ_225 q_226 (.inl (T 0, 121, .inl (fun _ => 0)))) q_1 = some (.inl (T 0, 121, .inl (fun _ => 0))) := wd_uk h_215 ne_232
  have ne_234 : q_10 ≠ q_226 := wd_nn h_216 hq_227
  have h_233 : (wd_up σ_225 q_226 (.inl (T 0, 121, .inl (fun _ => 0)))) q_10 = some (.inl (T 0, 121, .inl (fun _ => 0))) := wd_uk h_216 ne_234
  have ne_236 : q_22 ≠ q_226 := wd_nn h_217 hq_227
  have h_235 : (wd_up σ_225 q_226 (.inl (T 0, 121, .inl (fun _ => 0)))) q_22 = some (.inl (T 0, 121, .inl (fun _ => 0))) := wd_uk h_217 ne_236
  have ne_238 : q_37 ≠ q_226 := wd_nn h_218 hq_227
  have h_237 : (wd_up σ_225 q_226 (.inl (T 0, 121, .inl (fun _ => 0)))) q_37 = some (.inl (T 0, 121, .inl (fun _ => 0))) := wd_uk h_218 ne_238
  have ne_240 : q_55 ≠ q_226 := wd_nn h_219 hq_227
  have h_239 : (wd_up σ_225 q_226 (.inl (T 0, 121, .inl (fun _ => 0)))) q_55 = some (.inl (T 0, 121, .inl (fun _ => 0))) := wd_uk h_219 ne_240
  have ne_242 : q_76 ≠ q_226 := wd_nn h_220 hq_227
  have h_241 : (wd_up σ_225 q_226 (.inl (T 0, 121, .inl (fun _ => 0)))) q_76 = some (.inl (T 0, 121, .inl (fun _ => 0))) := wd_uk h_220 ne_242
  have ne_244 : q_100 ≠ q_226 := wd_nn h_221 hq_227
  have h_243 : (wd_up σ_225 q_226 (.inl (T 0, 121, .inl (fun _ => 0)))) q_100 = some (.inl (T 1, 121, .inl (fun _ => 0))) := wd_uk h_221 ne_244
  have ne_246 : q_127 ≠ q_226 := wd_nn h_222 hq_227
  have h_245 : (wd_up σ_225 q_226 (.inl (T 0, 121, .inl (fun _ => 0)))) q_127 = some (.inl (T 0, 121, .inl (fun _ => 0))) := wd_uk h_222 ne_246
  have ne_248 : q_157 ≠ q_226 := wd_nn h_223 hq_227
  have h_247 : (wd_up σ_225 q_226 (.inl (T 0, 121, .inl (fun _ => 0)))) q_157 = some (.inl (T 0, 121, .inl (fun _ => 0))) := wd_uk h_223 ne_248
  have ne_250 : q_190 ≠ q_226 := wd_nn h_224 hq_227
  have h_249 : (wd_up σ_225 q_226 (.inl (T 0, 121, .inl (fun _ => 0)))) q_190 = some (.inl (T 0, 121, .inl (fun _ => 0))) := wd_uk h_224 ne_250
  have h_228 : (wd_up σ_225 q_226 (.inl (T 0, 121, .inl (fun _ => 0)))) q_226 = some (.inl (T 0, 121, .inl (fun _ => 0))) := wd_us _ _ _
  generalize (wd_up σ_225 q_226 (.inl (T 0, 121, .inl (fun _ => 0)))) = σ_251 at h h_229 h_231 h_233 h_235 h_237 h_239 h_241 h_243 h_245 h_247 h_249 h_228
  refine wd_putF C h kc_M h_229 11 (by decide) lk_M_41 rfl hname rfl (by rfl) (by rfl) (Nat.le_of_ble_eq_true rfl) d_M_init_89 (fun H locs h => ?_)
  replace h : wd_C D T A s H locs (wd_up σ_251 y (.inr (4, [.int 0, .ref q_1, .ref q_10, .ref q_22, .ref q_37, .ref q_55, .ref q_76, .ref q_100, .ref q_127, .ref q_157, .ref q_190, .ref q_226, .null, .null, .null, .null, .null, .null, .null, .int 0, .null, .int 0, .null]))) := h
  have h_252 : (wd_up σ_251 y (.inr (4, [.int 0, .ref q_1, .ref q_10, .ref q_22, .ref q_37, .ref q_55, .ref q_76, .ref q_100, .ref q_127, .ref q_157, .ref q_190, .ref q_226, .null, .null, .null, .null, .null, .null, .null, .int 0, .null, .int 0, .null]))) y = some (.inr (4, [.int 0, .ref q_1, .ref q_10, .ref q_22, .ref q_37, .ref q_55, .ref q_76, .ref q_100, .ref q_127, .ref q_157, .ref q_190, .ref q_226, .null, .null, .null, .null, .null, .null, .null, .int 0, .null, .int 0, .null])) := wd_us _ _ _
  have h_253 : (wd_up σ_251 y (.inr (4, [.int 0, .ref q_1, .ref q_10, .ref q_22, .ref q_37, .ref q_55, .ref q_76, .ref q_100, .ref q_127, .ref q_157, .ref q_190, .ref q_226, .null, .null, .null, .null, .null, .null, .null, .int 0, .null, .int 0, .null]))) q_1 = some (.inl (T 0, 121, .inl (fun _ => 0))) := wd_uk h_231 (Ne.symm ne_5)
  have h_254 : (wd_up σ_251 y (.inr (4, [.int 0, .ref q_1, .ref q_10, .ref q_22, .ref q_37, .ref q_55, .ref q_76, .ref q_100, .ref q_127, .ref q_157, .ref q_190, .ref q_226, .null, .null, .null, .null, .null, .null, .null, .int 0, .null, .int 0, .null]))) q_10 = some (.inl (T 0, 121, .inl (fun _ => 0))) := wd_uk h_233 (Ne.symm ne_14)
  have h_255 : (wd_up σ_251 y (.inr (4, [.int 0, .ref q_1, .ref q_10, .ref q_22, .ref q_37, .ref q_55, .ref q_76, .ref q_100, .ref q_127, .ref q_157, .ref q_190, .ref q_226, .null, .null, .null, .null, .null, .null, .null, .int 0, .null, .int 0, .null]))) q_22 = some (.inl (T 0, 121, .inl (fun _ => 0))) := wd_uk h_235 (Ne.symm ne_26)
  have h_256 : (wd_up σ_251 y (.inr (4, [.int 0, .ref q_1, .ref q_10, .ref q_22, .ref q_37, .ref q_55, .ref q_76, .ref q_100, .ref q_127, .ref q_157, .ref q_190, .ref q_226, .null, .null, .null, .null, .null, .null, .null, .int 0, .null, .int 0, .null]))) q_37 = some (.inl (T 0, 121, .inl (fun _ => 0))) := wd_uk h_237 (Ne.symm ne_41)
  have h_257 : (wd_up σ_251 y (.inr (4, [.int 0, .ref q_1, .ref q_10, .ref q_22, .ref q_37, .ref q_55, .ref q_76, .ref q_100, .ref q_127, .ref q_157, .ref q_190, .ref q_226, .null, .null, .null, .null, .null, .null, .null, .int 0, .null, .int 0, .null]))) q_55 = some (.inl (T 0, 121, .inl (fun _ => 0))) := wd_uk h_239 (Ne.symm ne_59)
  have h_258 : (wd_up σ_251 y (.inr (4, [.int 0, .ref q_1, .ref q_10, .ref q_22, .ref q_37, .ref q_55, .ref q_76, .ref q_100, .ref q_127, .ref q_157, .ref q_190, .ref q_226, .null, .null, .null, .null, .null, .null, .null, .int 0, .null, .int 0, .null]))) q_76 = some (.inl (T 0, 121, .inl (fun _ => 0))) := wd_uk h_241 (Ne.symm ne_80)
  have h_259 : (wd_up σ_251 y (.inr (4, [.int 0, .ref q_1, .ref q_10, .ref q_22, .ref q_37, .ref q_55, .ref q_76, .ref q_100, .ref q_127, .ref q_157, .ref q_190, .ref q_226, .null, .null, .null, .null, .null, .null, .null, .int 0, .null, .int 0, .null]))) q_100 = some (.inl (T 1, 121, .inl (fun _ => 0))) := wd_uk h_243 (Ne.symm ne_104)
  have h_260 : (wd_up σ_251 y (.inr (4, [.int 0, .ref q_1, .ref q_10, .ref q_22, .ref q_37, .ref q_55, .ref q_76, .ref q_100, .ref q_127, .ref q_157, .ref q_190, .ref q_226, .null, .null, .null, .null, .null, .null, .null, .int 0, .null, .int 0, .null]))) q_127 = some (.inl (T 0, 121, .inl (fun _ => 0))) := wd_uk h_245 (Ne.symm ne_131)
  have h_261 : (wd_up σ_251 y (.inr (4, [.int 0, .ref q_1, .ref q_10, .ref q_22, .ref q_37, .ref q_55, .ref q_76, .ref q_100, .ref q_127, .ref q_157, .ref q_190, .ref q_226, .null, .null, .null, .null, .null, .null, .null, .int 0, .null, .int 0, .null]))) q_157 = some (.inl (T 0, 121, .inl (fun _ => 0))) := wd_uk h_247 (Ne.symm ne_161)
  have h_262 : (wd_up σ_251 y (.inr (4, [.int 0, .ref q_1, .ref q_10, .ref q_22, .ref q_37, .ref q_55, .ref q_76, .ref q_100, .ref q_127, .ref q_157, .ref q_190, .ref q_226, .null, .null, .null, .null, .null, .null, .null, .int 0, .null, .int 0, .null]))) q_190 = some (.inl (T 0, 121, .inl (fun _ => 0))) := wd_uk h_249 (Ne.symm ne_194)
  have h_263 : (wd_up σ_251 y (.inr (4, [.int 0, .ref q_1, .ref q_10, .ref q_22, .ref q_37, .ref q_55, .ref q_76, .ref q_100, .ref q_127, .ref q_157, .ref q_190, .ref q_226, .null, .null, .null, .null, .null, .null, .null, .int 0, .null, .int 0, .null]))) q_226 = some (.inl (T 0, 121, .inl (fun _ => 0))) := wd_uk h_228 (Ne.symm ne_230)
  generalize (wd_up σ_251 y (.inr (4, [.int 0, .ref q_1, .ref q_10, .ref q_22, .ref q_37, .ref q_55, .ref q_76, .ref q_100, .ref q_127, .ref q_157, .ref q_190, .ref q_226, .null, .null, .null, .null, .null, .null, .null, .int 0, .null, .int 0, .null]))) = σ_264 at h h_252 h_253 h_254 h_255 h_256 h_257 h_258 h_259 h_260 h_261 h_262 h_263
  refine lv_aload_n hx hb d_M_init_92 rfl (lv_at hl 0 rfl) ?_
  refine lv_bipush (v := 121) hx hb d_M_init_93 (by decide) ?_
  refine wd_newi C h 0 rfl wa_int 121 121 (by decide) (by decide) (by decide) (Nat.le_of_ble_eq_true rfl) (Nat.le_of_ble_eq_true rfl) d_M_init_95 (fun q_265 H hq_266 h => ?_)
  have ne_269 : y ≠ q_265 := wd_nn h_252 hq_266
  have h_268 : (wd_up σ_264 q_265 (.inl (T 0, 121, .inl (fun _ => 0)))) y = some (.inr (4, [.int 0, .ref q_1, .ref q_10, .ref q_22, .ref q_37, .ref q_55, .ref q_76, .ref q_100, .ref q_127, .ref q_157, .ref q_190, .ref q_226, .null, .null, .null, .null, .null, .null, .null, .int 0, .null, .int 0, .null])) := wd_uk h_252 ne_269
  have ne_271 : q_1 ≠ q_265 := wd_nn h_253 hq_266
  have h_270 : (wd_up σ_264 q_265 (.inl (T 0, 121, .inl (fun _ => 0)))) q_1 = some (.inl (T 0, 121, .inl (fun _ => 0))) := wd_uk h_253 ne_271
  have ne_273 : q_10 ≠ q_265 := wd_nn h_254 hq_266
  have h_272 : (wd_up σ_264 q_265 (.inl (T 0, 121, .inl (fun _ => 0)))) q_10 = some (.inl (T 0, 121, .inl (fun _ => 0))) := wd_uk h_254 ne_273
  have ne_275 : q_22 ≠ q_265 := wd_nn h_255 hq_266
  have h_274 : (wd_up σ_264 q_265 (.inl (T 0, 121, .inl (fun _ => 0)))) q_22 = some (.inl (T 0, 121, .inl (fun _ => 0))) := wd_uk h_255 ne_275
  have ne_277 : q_37 ≠ q_265 := wd_nn h_256 hq_266
  have h_276 : (wd_up σ_264 q_265 (.inl (T 0, 121, .inl (fun _ => 0)))) q_37 = some (.inl (T 0, 121, .inl (fun _ => 0))) := wd_uk h_256 ne_277
  have ne_279 : q_55 ≠ q_265 := wd_nn h_257 hq_266
  have h_278 : (wd_up σ_264 q_265 (.inl (T 0, 121, .inl (fun _ => 0)))) q_55 = some (.inl (T 0, 121, .inl (fun _ => 0))) := wd_uk h_257 ne_279
  have ne_281 : q_76 ≠ q_265 := wd_nn h_258 hq_266
  have h_280 : (wd_up σ_264 q_265 (.inl (T 0, 121, .inl (fun _ => 0)))) q_76 = some (.inl (T 0, 121, .inl (fun _ => 0))) := wd_uk h_258 ne_281
  have ne_283 : q_100 ≠ q_265 := wd_nn h_259 hq_266
  have h_282 : (wd_up σ_264 q_265 (.inl (T 0, 121, .inl (fun _ => 0)))) q_100 = some (.inl (T 1, 121, .inl (fun _ => 0))) := wd_uk h_259 ne_283
  have ne_285 : q_127 ≠ q_265 := wd_nn h_260 hq_266
  have h_284 : (wd_up σ_264 q_265 (.inl (T 0, 121, .inl (fun _ => 0)))) q_127 = some (.inl (T 0, 121, .inl (fun _ => 0))) := wd_uk h_260 ne_285
  have ne_287 : q_157 ≠ q_265 := wd_nn h_261 hq_266
  have h_286 : (wd_up σ_264 q_265 (.inl (T 0, 121, .inl (fun _ => 0)))) q_157 = some (.inl (T 0, 121, .inl (fun _ => 0))) := wd_uk h_261 ne_287
  have ne_289 : q_190 ≠ q_265 := wd_nn h_262 hq_266
  have h_288 : (wd_up σ_264 q_265 (.inl (T 0, 121, .inl (fun _ => 0)))) q_190 = some (.inl (T 0, 121, .inl (fun _ => 0))) := wd_uk h_262 ne_289
  have ne_291 : q_226 ≠ q_265 := wd_nn h_263 hq_266
  have h_290 : (wd_up σ_264 q_265 (.inl (T 0, 121, .inl (fun _ => 0)))) q_226 = some (.inl (T 0, 121, .inl (fun _ => 0))) := wd_uk h_263 ne_291
  have h_267 : (wd_up σ_264 q_265 (.inl (T 0, 121, .inl (fun _ => 0)))) q_265 = some (.inl (T 0, 121, .inl (fun _ => 0))) := wd_us _ _ _
  generalize (wd_up σ_264 q_265 (.inl (T 0, 121, .inl (fun _ => 0)))) = σ_292 at h h_268 h_270 h_272 h_274 h_276 h_278 h_280 h_282 h_284 h_286 h_288 h_290 h_267
  refine wd_putF C h kc_M h_268 12 (by decide) lk_M_44 rfl hname rfl (by rfl) (by rfl) (Nat.le_of_ble_eq_true rfl) d_M_init_97 (fun H locs h => ?_)
  replace h : wd_C D T A s H locs (wd_up σ_292 y (.inr (4, [.int 0, .ref q_1, .ref q_10, .ref q_22, .ref q_37, .ref q_55, .ref q_76, .ref q_100, .ref q_127, .ref q_157, .ref q_190, .ref q_226, .ref q_265, .null, .null, .null, .null, .null, .null, .int 0, .null, .int 0, .null]))) := h
  have h_293 : (wd_up σ_292 y (.inr (4, [.int 0, .ref q_1, .ref q_10, .ref q_22, .ref q_37, .ref q_55, .ref q_76, .ref q_100, .ref q_127, .ref q_157, .ref q_190, .ref q_226, .ref q_265, .null, .null, .null, .null, .null, .null, .int 0, .null, .int 0, .null]))) y = some (.inr (4, [.int 0, .ref q_1, .ref q_10, .ref q_22, .ref q_37, .ref q_55, .ref q_76, .ref q_100, .ref q_127, .ref q_157, .ref q_190, .ref q_226, .ref q_265, .null, .null, .null, .null, .null, .null, .int 0, .null, .int 0, .null])) := wd_us _ _ _
  have h_294 : (wd_up σ_292 y (.inr (4, [.int 0, .ref q_1, .ref q_10, .ref q_22, .ref q_37, .ref q_55, .ref q_76, .ref q_100, .ref q_127, .ref q_157, .ref q_190, .ref q_226, .ref q_265, .null, .null, .null, .null, .null, .null, .int 0, .null, .int 0, .null]))) q_1 = some (.inl (T 0, 121, .inl (fun _ => 0))) := wd_uk h_270 (Ne.symm ne_5)
  have h_295 : (wd_up σ_292 y (.inr (4, [.int 0, .ref q_1, .ref q_10, .ref q_22, .ref q_37, .ref q_55, .ref q_76, .ref q_100, .ref q_127, .ref q_157, .ref q_190, .ref q_226, .ref q_265, .null, .null, .null, .null, .null, .null, .int 0, .null, .int 0, .null]))) q_10 = some (.inl (T 0, 121, .inl (fun _ => 0))) := wd_uk h_272 (Ne.symm ne_14)
  have h_296 : (wd_up σ_292 y (.inr (4, [.int 0, .ref q_1, .ref q_10, .ref q_22, .ref q_37, .ref q_55, .ref q_76, .ref q_100, .ref q_127, .ref q_157, .ref q_190, .ref q_226, .ref q_265, .null, .null, .null, .null, .null, .null, .int 0, .null, .int 0, .null]))) q_22 = some (.inl (T 0, 121, .inl (fun _ => 0))) := wd_uk h_274 (Ne.symm ne_26)
  have h_297 : (wd_up σ_292 y (.inr (4, [.int 0, .ref q_1, .ref q_10, .ref q_22, .ref q_37, .ref q_55, .ref q_76, .ref q_100, .ref q_127, .ref q_157, .ref q_190, .ref q_226, .ref q_265, .null, .null, .null, .null, .null, .null, .int 0, .null, .int 0, .null]))) q_37 = some (.inl (T 0, 121, .inl (fun _ => 0))) := wd_uk h_276 (Ne.symm ne_41)
  have h_298 : (wd_up σ_292 y (.inr (4, [.int 0, .ref q_1, .ref q_10, .ref q_22, .ref q_37, .ref q_55, .ref q_76, .ref q_100, .ref q_127, .ref q_157, .ref q_190, .ref q_226, .ref q_265, .null, .null, .null, .null, .null, .null, .int 0, .null, .int 0, .null]))) q_55 = some (.inl (T 0, 121, .inl (fun _ => 0))) := wd_uk h_278 (Ne.symm ne_59)
  have h_299 : (wd_up σ_292 y (.inr (4, [.int 0, .ref q_1, .ref q_10, .ref q_22, .ref q_37, .ref q_55, .ref q_76, .ref q_100, .ref q_127, .ref q_157, .ref q_190, .ref q_226, .ref q_265, .null, .null, .null, .null, .null, .null, .int 0, .null, .int 0, .null]))) q_76 = some (.inl (T 0, 121, .inl (fun _ => 0))) := wd_uk h_280 (Ne.symm ne_80)
  have h_300 : (wd_up σ_292 y (.inr (4, [.int 0, .ref q_1, .ref q_10, .ref q_22, .ref q_37, .ref q_55, .ref q_76, .ref q_100, .ref q_127, .ref q_157, .ref q_190, .ref q_226, .ref q_265, .null, .null, .null, .null, .null, .null, .int 0, .null, .int 0, .null]))) q_100 = some (.inl (T 1, 121, .inl (fun _ => 0))) := wd_uk h_282 (Ne.symm ne_104)
  have h_301 : (wd_up σ_292 y (.inr (4, [.int 0, .ref q_1, .ref q_10, .ref q_22, .ref q_37, .ref q_55, .ref q_76, .ref q_100, .ref q_127, .ref q_157, .ref q_190, .ref q_226, .ref q_265, .null, .null, .null, .null, .null, .null, .int 0, .null, .int 0, .null]))) q_127 = some (.inl (T 0, 121, .inl (fun _ => 0))) := wd_uk h_284 (Ne.symm ne_131)
  have h_302 : (wd_up σ_292 y (.inr (4, [.int 0, .ref q_1, .ref q_10, .ref q_22, .ref q_37, .ref q_55, .ref q_76, .ref q_100, .ref q_127, .ref q_157, .ref q_190, .ref q_226, .ref q_265, .null, .null, .null, .null, .null, .null, .int 0, .null, .int 0, .null]))) q_157 = some (.inl (T 0, 121, .inl (fun _ => 0))) := wd_uk h_286 (Ne.symm ne_161)
  have h_303 : (wd_up σ_292 y (.inr (4, [.int 0, .ref q_1, .ref q_10, .ref q_22, .ref q_37, .ref q_55, .ref q_76, .ref q_100, .ref q_127, .ref q_157, .ref q_190, .ref q_226, .ref q_265, .null, .null, .null, .null, .null, .null, .int 0, .null, .int 0, .null]))) q_190 = some (.inl (T 0, 121, .inl (fun _ => 0))) := wd_uk h_288 (Ne.symm ne_194)
  have h_304 : (wd_up σ_292 y (.inr (4, [.int 0, .ref q_1, .ref q_10, .ref q_22, .ref q_37, .ref q_55, .ref q_76, .ref q_100, .ref q_127, .ref q_157, .ref q_190, .ref q_226, .ref q_265, .null, .null, .null, .null, .null, .null, .int 0, .null, .int 0, .null]))) q_226 = some (.inl (T 0, 121, .inl (fun _ => 0))) := wd_uk h_290 (Ne.symm ne_230)
  have h_305 : (wd_up σ_292 y (.inr (4, [.int 0, .ref q_1, .ref q_10, .ref q_22, .ref q_37, .ref q_55, .ref q_76, .ref q_100, .ref q_127, .ref q_157, .ref q_190, .ref q_226, .ref q_265, .null, .null, .null, .null, .null, .null, .int 0, .null, .int 0, .null]))) q_265 = some (.inl (T 0, 121, .inl (fun _ => 0))) := wd_uk h_267 (Ne.symm ne_269)
  generalize (wd_up σ_292 y (.inr (4, [.int 0, .ref q_1, .ref q_10, .ref q_22, .ref q_37, .ref q_55, .ref q_76, .ref q_100, .ref q_127, .ref q_157, .ref q_190, .ref q_226, .ref q_265, .null, .null, .null, .null, .null, .null, .int 0, .null, .int 0, .null]))) = σ_306 at h h_293 h_294 h_295 h_296 h_297 h_298 h_299 h_300 h_301 h_302 h_303 h_304 h_305
  refine lv_aload_n hx hb d_M_init_100 rfl (lv_at hl 0 rfl) ?_
  refine lv_sipush (v := 484) hx hb d_M_init_101 (by decide) ?_
  refine wd_newi C h 0 rfl wa_int 484 484 (by decide) (by decide) (by decide) (Nat.le_of_ble_eq_true rfl) (Nat.le_of_ble_eq_true rfl) d_M_init_104 (fun q_307 H hq_308 h => ?_)
  have ne_311 : y ≠ q_307 := wd_nn h_293 hq_308
  have h_310 : (wd_up σ_306 q_307 (.inl (T 0, 484, .inl (fun _ => 0)))) y = some (.inr (4, [.int 0, .ref q_1, .ref q_10, .ref q_22, .ref q_37, .ref q_55, .ref q_76, .ref q_100, .ref q_127, .ref q_157, .ref q_190, .ref q_226, .ref q_265, .null, .null, .null, .null, .null, .null, .int 0, .null, .int 0, .null])) := wd_uk h_293 ne_311
  have ne_313 : q_1 ≠ q_307 := wd_nn h_294 hq_308
  have h_312 : (wd_up σ_306 q_307 (.inl (T 0, 484, .inl (fun _ => 0)))) q_1 = some (.inl (T 0, 121, .inl (fun _ => 0))) := wd_uk h_294 ne_313
  have ne_315 : q_10 ≠ q_307 := wd_nn h_295 hq_308
  have h_314 : (wd_up σ_306 q_307 (.inl (T 0, 484, .inl (fun _ => 0)))) q_10 = some (.inl (T 0, 121, .inl (fun _ => 0))) := wd_uk h_295 ne_315
  have ne_317 : q_22 ≠ q_307 := wd_nn h_296 hq_308
  have h_316 : (wd_up σ_306 q_307 (.inl (T 0, 484, .inl (fun _ => 0)))) q_22 = some (.inl (T 0, 121, .inl (fun _ => 0))) := wd_uk h_296 ne_317
  have ne_319 : q_37 ≠ q_307 := wd_nn h_297 hq_308
  have h_318 : (wd_up σ_306 q_307 (.inl (T 0, 484, .inl (fun _ => 0)))) q_37 = some (.inl (T 0, 121, .inl (fun _ => 0))) := wd_uk h_297 ne_319
  have ne_321 : q_55 ≠ q_307 := wd_nn h_298 hq_308
  have h_320 : (wd_up σ_306 q_307 (.inl (T 0, 484, .inl (fun _ => 0)))) q_55 = some (.inl (T 0, 121, .inl (fun _ => 0))) := wd_uk h_298 ne_321
  have ne_323 : q_76 ≠ q_307 := wd_nn h_299 hq_308
  have h_322 : (wd_up σ_306 q_307 (.inl (T 0, 484, .inl (fun _ => 0)))) q_76 = some (.inl (T 0, 121, .inl (fun _ => 0))) := wd_uk h_299 ne_323
  have ne_325 : q_100 ≠ q_307 := wd_nn h_300 hq_308
  have h_324 : (wd_up σ_306 q_307 (.inl (T 0, 484, .inl (fun _ => 0)))) q_100 = some (.inl (T 1, 121, .inl (fun _ => 0))) := wd_uk h_300 ne_325
  have ne_327 : q_127 ≠ q_307 := wd_nn h_301 hq_308
  have h_326 : (wd_up σ_306 q_307 (.inl (T 0, 484, .inl (fun _ => 0)))) q_127 = some (.inl (T 0, 121, .inl (fun _ => 0))) := wd_uk h_301 ne_327
  have ne_329 : q_157 ≠ q_307 := wd_nn h_302 hq_308
  have h_328 : (wd_up σ_306 q_307 (.inl (T 0, 484, .inl (fun _ => 0)))) q_157 = some (.inl (T 0, 121, .inl (fun _ => 0))) := wd_uk h_302 ne_329
  have ne_331 : q_190 ≠ q_307 := wd_nn h_303 hq_308
  have h_330 : (wd_up σ_306 q_307 (.inl (T 0, 484, .inl (fun _ => 0)))) q_190 = some (.inl (T 0, 121, .inl (fun _ => 0))) := wd_uk h_303 ne_331
  have ne_333 : q_226 ≠ q_307 := wd_nn h_304 hq_308
  have h_332 : (wd_up σ_306 q_307 (.inl (T 0, 484, .inl (fun _ => 0)))) q_226 = some (.inl (T 0, 121, .inl (fun _ => 0))) := wd_uk h_304 ne_333
  have ne_335 : q_265 ≠ q_307 := wd_nn h_305 hq_308
  have h_334 : (wd_up σ_306 q_307 (.inl (T 0, 484, .inl (fun _ => 0)))) q_265 = some (.inl (T 0, 121, .inl (fun _ => 0))) := wd_uk h_305 ne_335
  have h_309 : (wd_up σ_306 q_307 (.inl (T 0, 484, .inl (fun _ => 0)))) q_307 = some (.inl (T 0, 484, .inl (fun _ => 0))) := wd_us _ _ _
  generalize (wd_up σ_306 q_307 (.inl (T 0, 484, .inl (fun _ => 0)))) = σ_336 at h h_310 h_312 h_314 h_316 h_318 h_320 h_322 h_324 h_326 h_328 h_330 h_332 h_334 h_309
  refine wd_putF C h kc_M h_310 13 (by decide) lk_M_47 rfl hname rfl (by rfl) (by rfl) (Nat.le_of_ble_eq_true rfl) d_M_init_106 (fun H locs h => ?_)
  replace h : wd_C D T A s H locs (wd_up σ_336 y (.inr (4, [.int 0, .ref q_1, .ref q_10, .ref q_22, .ref q_37, .ref q_55, .ref q_76, .ref q_100, .ref q_127, .ref q_157, .ref q_190, .ref q_226, .ref q_265, .ref q_307, .null, .null, .null, .null, .null, .int 0, .null, .int 0, .null]))) := h
  have h_337 : (wd_up σ_336 y (.inr (4, [.int 0, .ref q_1, .ref q_10, .ref q_22, .ref q_37, .ref q_55, .ref q_76, .ref q_100, .ref q_127, .ref q_157, .ref q_190, .ref q_226, .ref q_265, .ref q_307, .null, .null, .null, .null, .null, .int 0, .null, .int 0, .null]))) y = some (.inr (4, [.int 0, .ref q_1, .ref q_10, .ref q_22, .ref q_37, .ref q_55, .ref q_76, .ref q_100, .ref q_127, .ref q_157, .ref q_190, .ref q_226, .ref q_265, .ref q_307, .null, .null, .null, .null, .null, .int 0, .null, .int 0, .null])) := wd_us _ _ _
  have h_338 : (wd_up σ_336 y (.inr (4, [.int 0, .ref q_1, .ref q_10, .ref q_22, .ref q_37, .ref q_55, .ref q_76, .ref q_100, .ref q_127, .ref q_157, .ref q_190, .ref q_226, .ref q_265, .ref q_307, .null, .null, .null, .null, .null, .int 0, .null, .int 0, .null]))) q_1 = some (.inl (T 0, 121, .inl (fun _ => 0))) := wd_uk h_312 (Ne.symm ne_5)
  have h_339 : (wd_up σ_336 y (.inr (4, [.int 0, .ref q_1, .ref q_10, .ref q_22, .ref q_37, .ref q_55, .ref q_76, .ref q_100, .ref q_127, .ref q_157, .ref q_190, .ref q_226, .ref q_265, .ref q_307, .null, .null, .null, .null, .null, .int 0, .null, .int 0, .null]))) q_10 = some (.inl (T 0, 121, .inl (fun _ => 0))) := wd_uk h_314 (Ne.symm ne_14)
  have h_340 : (wd_up σ_336 y (.inr (4, [.int 0, .ref q_1, .ref q_10, .ref q_22, .ref q_37, .ref q_55, .ref q_76, .ref q_100, .ref q_127, .ref q_157, .ref q_190, .ref q_226, .ref q_265, .ref q_307, .null, .null, .null, .null, .null, .int 0, .null, .int 0, .null]))) q_22 = some (.inl (T 0, 121, .inl (fun _ => 0))) := wd_uk h_316 (Ne.symm ne_26)
  have h_341 : (wd_up σ_336 y (.inr (4, [.int 0, .ref q_1, .ref q_10, .ref q_22, .ref q_37, .ref q_55, .ref q_76, .ref q_100, .ref q_127, .ref q_157, .ref q_190, .ref q_226, .ref q_265, .ref q_307, .null, .null, .null, .null, .null, .int 0, .null, .int 0, .null]))) q_37 = some (.inl (T 0, 121, .inl (fun _ => 0))) := wd_uk h_318 (Ne.symm ne_41)
  have h_342 : (wd_up σ_336 y (.inr (4, [.int 0, .ref q_1, .ref q_10, .ref q_22, .ref q_37, .ref q_55, .ref q_76, .ref q_100, .ref q_127, .ref q_157, .ref q_190, .ref q_226, .ref q_265, .ref q_307, .null, .null, .null, .null, .null, .int 0, .null, .int 0, .null]))) q_55 = some (.inl (T 0, 121, .inl (fun _ => 0))) := wd_uk h_320 (Ne.symm ne_59)
  have h_343 : (wd_up σ_336 y (.inr (4, [.int 0, .ref q_1, .ref q_10, .ref q_22, .ref q_37, .ref q_55, .ref q_76, .ref q_100, .ref q_127, .ref q_157, .ref q_190, .ref q_226, .ref q_265, .ref q_307, .null, .null, .null, .null, .null, .int 0, .null, .int 0, .null]))) q_76 = some (.inl (T 0, 121, .inl (fun _ => 0))) := wd_uk h_322 (Ne.symm ne_80)
  have h_344 : (wd_up σ_336 y (.inr (4, [.int 0, .ref q_1, .ref q_10, .ref q_22, .ref q_37, .ref q_55, .ref q_76, .ref q_100, .ref q_127, .ref q_157, .ref q_190, .ref q_226, .ref q_265, .ref q_307, .null, .null, .null, .null, .null, .int 0, .null, .int 0, .null]))) q_100 = some (.inl (T 1, 121, .inl (fun _ => 0))) := wd_uk h_324 (Ne.symm ne_104)
  have h_345 : (wd_up σ_336 y (.inr (4, [.int 0, .ref q_1, .ref q_10, .ref q_22, .ref q_37, .ref q_55, .ref q_76, .ref q_100, .ref q_127, .ref q_157, .ref q_190, .ref q_226, .ref q_265, .ref q_307, .null, .null, .null, .null, .null, .int 0, .null, .int 0, .null]))) q_127 = some (.inl (T 0, 121, .inl (fun _ => 0))) := wd_uk h_326 (Ne.symm ne_131)
  have h_346 : (wd_up σ_336 y (.inr (4, [.int 0, .ref q_1, .ref q_10, .ref q_22, .ref q_37, .ref q_55, .ref q_76, .ref q_100, .ref q_127, .ref q_157, .ref q_190, .ref q_226, .ref q_265, .ref q_307, .null, .null, .null, .null, .null, .int 0, .null, .int 0, .null]))) q_157 = some (.inl (T 0, 121, .inl (fun _ => 0))) := wd_uk h_328 (Ne.symm ne_161)
  have h_347 : (wd_up σ_336 y (.inr (4, [.int 0, .ref q_1, .ref q_10, .ref q_22, .ref q_37, .ref q_55, .ref q_76, .ref q_100, .ref q_127, .ref q_157, .ref q_190, .ref q_226, .ref q_265, .ref q_307, .null, .null, .null, .null, .null, .int 0, .null, .int 0, .null]))) q_190 = some (.inl (T 0, 121, .inl (fun _ => 0))) := wd_uk h_330 (Ne.symm ne_194)
  have h_348 : (wd_up σ_336 y (.inr (4, [.int 0, .ref q_1, .ref q_10, .ref q_22, .ref q_37, .ref q_55, .ref q_76, .ref q_100, .ref q_127, .ref q_157, .ref q_190, .ref q_226, .ref q_265, .ref q_307, .null, .null, .null, .null, .null, .int 0, .null, .int 0, .null]))) q_226 = some (.inl (T 0, 121, .inl (fun _ => 0))) := wd_uk h_332 (Ne.symm ne_230)
  have h_349 : (wd_up σ_336 y (.inr (4, [.int 0, .ref q_1, .ref q_10, .ref q_22, .ref q_37, .ref q_55, .ref q_76, .ref q_100, .ref q_127, .ref q_157, .ref q_190, .ref q_226, .ref q_265, .ref q_307, .null, .null, .null, .null, .null, .int 0, .null, .int 0, .null]))) q_265 = some (.inl (T 0, 121, .inl (fun _ => 0))) := wd_uk h_334 (Ne.symm ne_269)
  have h_350 : (wd_up σ_336 y (.inr (4, [.int 0, .ref q_1, .ref q_10, .ref q_22, .ref q_37, .ref q_55, .ref q_76, .ref q_100, .ref q_127, .ref q_157, .ref q_190, .ref q_226, .ref q_265, .ref q_307, .null, .null, .null, .null, .null, .int 0, .null, .int 0, .null]))) q_307 = some (.inl (T 0, 484, .inl (fun _ => 0))) := wd_uk h_309 (Ne.symm ne_311)
  generalize (wd_up σ_336 y (.inr (4, [.int 0, .ref q_1, .ref q_10, .ref q_22, .ref q_37, .ref q_55, .ref q_76, .ref q_100, .ref q_127, .ref q_157, .ref q_190, .ref q_226, .ref q_265, .ref q_307, .null, .null, .null, .null, .null, .int 0, .null, .int 0, .null]))) = σ_351 at h h_337 h_338 h_339 h_340 h_341 h_342 h_343 h_344 h_345 h_346 h_347 h_348 h_349 h_350
  refine lv_aload_n hx hb d_M_init_109 rfl (lv_at hl 0 rfl) ?_
  refine lv_sipush (v := 484) hx hb d_M_init_110 (by decide) ?_
  refine wd_newi C h 0 rfl wa_int 484 484 (by decide) (by decide) (by decide) (Nat.le_of_ble_eq_true rfl) (Nat.le_of_ble_eq_true rfl) d_M_init_113 (fun q_352 H hq_353 h => ?_)
  have ne_356 : y ≠ q_352 := wd_nn h_337 hq_353
  have h_355 : (wd_up σ_351 q_352 (.inl (T 0, 484, .inl (fun _ => 0)))) y = some (.inr (4, [.int 0, .ref q_1, .ref q_10, .ref q_22, .ref q_37, .ref q_55, .ref q_76, .ref q_100, .ref q_127, .ref q_157, .ref q_190, .ref q_226, .ref q_265, .ref q_307, .null, .null, .null, .null, .null, .int 0, .null, .int 0, .null])) := wd_uk h_337 ne_356
  have ne_358 : q_1 ≠ q_352 := wd_nn h_338 hq_353
  have h_357 : (wd_up σ_351 q_352 (.inl (T 0, 484, .inl (fun _ => 0)))) q_1 = some (.inl (T 0, 121, .inl (fun _ => 0))) := wd_uk h_338 ne_358
  have ne_360 : q_10 ≠ q_352 := wd_nn h_339 hq_353
  have h_359 : (wd_up σ_351 q_352 (.inl (T 0, 484, .inl (fun _ => 0)))) q_10 = some (.inl (T 0, 121, .inl (fun _ => 0))) := wd_uk h_339 ne_360
  have ne_362 : q_22 ≠ q_352 := wd_nn h_340 hq_353
  have h_361 : (wd_up σ_351 q_352 (.inl (T 0, 484, .inl (fun _ => 0)))) q_22 = some (.inl (T 0, 121, .inl (fun _ => 0))) := wd_uk h_340 ne_362
  have ne_364 : q_37 ≠ q_352 := wd_nn h_341 hq_353
  have h_363 : (wd_up σ_351 q_352 (.inl (T 0, 484, .inl (fun _ => 0)))) q_37 = some (.inl (T 0, 121, .inl (fun _ => 0))) := wd_uk h_341 ne_364
  have ne_366 : q_55 ≠ q_352 := wd_nn h_342 hq_353
  have h_365 : (wd_up σ_351 q_352 (.inl (T 0, 484, .inl (fun _ => 0)))) q_55 = some (.inl (T 0, 121, .inl (fun _ => 0))) := wd_uk h_342 ne_366
  have ne_368 : q_76 ≠ q_352 := wd_nn h_343 hq_353
  have h_367 : (wd_up σ_351 q_352 (.inl (T 0, 484, .inl (fun _ => 0)))) q_76 = some (.inl (T 0, 121, .inl (fun _ => 0))) := wd_uk h_343 ne_368
  have ne_370 : q_100 ≠ q_352 := wd_nn h_344 hq_353
  have h_369 : (wd_up σ_351 q_352 (.inl (T 0, 484, .inl (fun _ => 0)))) q_100 = some (.inl (T 1, 121, .inl (fun _ => 0))) := wd_uk h_344 ne_370
  have ne_372 : q_127 ≠ q_352 := wd_nn h_345 hq_353
  have h_371 : (wd_up σ_351 q_352 (.inl (T 0, 484, .inl (fun _ => 0)))) q_127 = some (.inl (T 0, 121, .inl (fun _ => 0))) := wd_uk h_345 ne_372
  have ne_374 : q_157 ≠ q_352 := wd_nn h_346 hq_353
  have h_373 : (wd_up σ_351 q_352 (.inl (T 0, 484, .inl (fun _ => 0)))) q_157 = some (.inl (T 0, 121, .inl (fun _ => 0))) := wd_uk h_346 ne_374
  have ne_376 : q_190 ≠ q_352 := wd_nn h_347 hq_353
  have h_375 : (wd_up σ_351 q_352 (.inl (T 0, 484, .inl (fun _ => 0)))) q_190 = some (.inl (T 0, 121, .inl (fun _ => 0))) := wd_uk h_347 ne_376
  have ne_378 : q_226 ≠ q_352 := wd_nn h_348 hq_353
  have h_377 : (wd_up σ_351 q_352 (.inl (T 0, 484, .inl (fun _ => 0)))) q_226 = some (.inl (T 0, 121, .inl (fun _ => 0))) := wd_uk h_348 ne_378
  have ne_380 : q_265 ≠ q_352 := wd_nn h_349 hq_353
  have h_379 : (wd_up σ_351 q_352 (.inl (T 0, 484, .inl (fun _ => 0)))) q_265 = some (.inl (T 0, 121, .inl (fun _ => 0))) := wd_uk h_349 ne_380
  have ne_382 : q_307 ≠ q_352 := wd_nn h_350 hq_353
  have h_381 : (wd_up σ_351 q_352 (.inl (T 0, 484, .inl (fun _ => 0)))) q_307 = some (.inl (T 0, 484, .inl (fun _ => 0))) := wd_uk h_350 ne_382
  have h_354 : (wd_up σ_351 q_352 (.inl (T 0, 484, .inl (fun _ => 0)))) q_352 = some (.inl (T 0, 484, .inl (fun _ => 0))) := wd_us _ _ _
  generalize (wd_up σ_351 q_352 (.inl (T 0, 484, .inl (fun _ => 0)))) = σ_383 at h h_355 h_357 h_359 h_361 h_363 h_365 h_367 h_369 h_371 h_373 h_375 h_377 h_379 h_381 h_354
  refine wd_putF C h kc_M h_355 14 (by decide) lk_M_50 rfl hname rfl (by rfl) (by rfl) (Nat.le_of_ble_eq_true rfl) d_M_init_115 (fun H locs h => ?_)
  replace h : wd_C D T A s H locs (wd_up σ_383 y (.inr (4, [.int 0, .ref q_1, .ref q_10, .ref q_22, .ref q_37, .ref q_55, .ref q_76, .ref q_100, .ref q_127, .ref q_157, .ref q_190, .ref q_226, .ref q_265, .ref q_307, .ref q_352, .null, .null, .null, .null, .int 0, .null, .int 0, .null]))) := h
  have h_384 : (wd_up σ_383 y (.inr (4, [.int 0, .ref q_1, .ref q_10, .ref q_22, .ref q_37, .ref q_55, .ref q_76, .ref q_100, .ref q_127, .ref q_157, .ref q_190, .ref q_226, .ref q_265, .ref q_307, .ref q_352, .null, .null, .null, .null, .int 0, .null, .int 0, .null]))) y = some (.inr (4, [.int 0, .ref q_1, .ref q_10, .ref q_22, .ref q_37, .ref q_55, .ref q_76, .ref q_100, .ref q_127, .ref q_157, .ref q_190, .ref q_226, .ref q_265, .ref q_307, .ref q_352, .null, .null, .null, .null, .int 0, .null, .int 0, .null])) := wd_us _ _ _
  have h_385 : (wd_up σ_383 y (.inr (4, [.int 0, .ref q_1, .ref q_10, .ref q_22, .ref q_37, .ref q_55, .ref q_76, .ref q_100, .ref q_127, .ref q_157, .ref q_190, .ref q_226, .ref q_265, .ref q_307, .ref q_352, .null, .null, .null, .null, .int 0, .null, .int 0, .null]))) q_1 = some (.inl (T 0, 121, .inl (fun _ => 0))) := wd_uk h_357 (Ne.symm ne_5)
  have h_386 : (wd_up σ_383 y (.inr (4, [.int 0, .ref q_1, .ref q_10, .ref q_22, .ref q_37, .ref q_55, .ref q_76, .ref q_100, .ref q_127, .ref q_157, .ref q_190, .ref q_226, .ref q_265, .ref q_307, .ref q_352, .null, .null, .null, .null, .int 0, .null, .int 0, .null]))) q_10 = some (.inl (T 0, 121, .inl (fun _ => 0))) := wd_uk h_359 (Ne.symm ne_14)
  have h_387 : (wd_up σ_383 y (.inr (4, [.int 0, .ref q_1, .ref q_10, .ref q_22, .ref q_37, .ref q_55, .ref q_76, .ref q_100, .ref q_127, .ref q_157, .ref q_190, .ref q_226, .ref q_265, .ref q_307, .ref q_352, .null, .null, .null, .null, .int 0, .null, .int 0, .null]))) q_22 = some (.inl (T 0, 121, .inl (fun _ => 0))) := wd_uk h_361 (Ne.symm ne_26)
  have h_388 : (wd_up σ_383 y (.inr (4, [.int 0, .ref q_1, .ref q_10, .ref q_22, .ref q_37, .ref q_55, .ref q_76, .ref q_100, .ref q_127, .ref q_157, .ref q_190, .ref q_226, .ref q_265, .ref q_307, .ref q_352, .null, .null, .null, .null, .int 0, .null, .int 0, .null]))) q_37 = some (.inl (T 0, 121, .inl (fun _ => 0))) := wd_uk h_363 (Ne.symm ne_41)
  have h_389 : (wd_up σ_383 y (.inr (4, [.int 0, .ref q_1, .ref q_10, .ref q_22, .ref q_37, .ref q_55, .ref q_76, .ref q_100, .ref q_127, .ref q_157, .ref q_190, .ref q_226, .ref q_265, .ref q_307, .ref q_352, .null, .null, .null, .null, .int 0, .null, .int 0, .null]))) q_55 = some (.inl (T 0, 121, .inl (fun _ => 0))) := wd_uk h_365 (Ne.symm ne_59)
  have h_390 : (wd_up σ_383 y (.inr (4, [.int 0, .ref q_1, .ref q_10, .ref q_22, .ref q_37, .ref q_55, .ref q_76, .ref q_100, .ref q_127, .ref q_157, .ref q_190, .ref q_226, .ref q_265, .ref q_307, .ref q_352, .null, .null, .null, .null, .int 0, .null, .int 0, .null]))) q_76 = some (.inl (T 0, 121, .inl (fun _ => 0))) := wd_uk h_367 (Ne.symm ne_80)
  have h_391 : (wd_up σ_383 y (.inr (4, [.int 0, .ref q_1, .ref q_10, .ref q_22, .ref q_37, .ref q_55, .ref q_76, .ref q_100, .ref q_127, .ref q_157, .ref q_190, .ref q_226, .ref q_265, .ref q_307, .ref q_352, .null, .null, .null, .null, .int 0, .null, .int 0, .null]))) q_100 = some (.inl (T 1, 121, .inl (fun _ => 0))) := wd_uk h_369 (Ne.symm ne_104)
  have h_392 : (wd_up σ_383 y (.inr (4, [.int 0, .ref q_1, .ref q_10, .ref q_22, .ref q_37, .ref q_55, .ref q_76, .ref q_100, .ref q_127, .ref q_157, .ref q_190, .ref q_226, .ref q_265, .ref q_307, .ref q_352, .null, .null, .null, .null, .int 0, .null, .int 0, .null]))) q_127 = some (.inl (T 0, 121, .inl (fun _ => 0))) := wd_uk h_371 (Ne.symm ne_131)
  have h_393 : (wd_up σ_383 y (.inr (4, [.int 0, .ref q_1, .ref q_10, .ref q_22, .ref q_37, .ref q_55, .ref q_76, .ref q_100, .ref q_127, .ref q_157, .ref q_190, .ref q_226, .ref q_265, .ref q_307, .ref q_352, .null, .null, .null, .null, .int 0, .null, .int 0, .null]))) q_157 = some (.inl (T 0, 121, .inl (fun _ => 0))) := wd_uk h_373 (Ne.symm ne_161)
  have h_394 : (wd_up σ_383 y (.inr (4, [.int 0, .ref q_1, .ref q_10, .ref q_22, .ref q_37, .ref q_55, .ref q_76, .ref q_100, .ref q_127, .ref q_157, .ref q_190, .ref q_226, .ref q_265, .ref q_307, .ref q_352, .null, .null, .null, .null, .int 0, .null, .int 0, .null]))) q_190 = some (.inl (T 0, 121, .inl (fun _ => 0))) := wd_uk h_375 (Ne.symm ne_194)
  have h_395 : (wd_up σ_383 y (.inr (4, [.int 0, .ref q_1, .ref q_10, .ref q_22, .ref q_37, .ref q_55, .ref q_76, .ref q_100, .ref q_127, .ref q_157, .ref q_190, .ref q_226, .ref q_265, .ref q_307, .ref q_352, .null, .null, .null, .null, .int 0, .null, .int 0, .null]))) q_226 = some (.inl (T 0, 121, .inl (fun _ => 0))) := wd_uk h_377 (Ne.symm ne_230)
  have h_396 : (wd_up σ_383 y (.inr (4, [.int 0, .ref q_1, .ref q_10, .ref q_22, .ref q_37, .ref q_55, .ref q_76, .ref q_100, .ref q_127, .ref q_157, .ref q_190, .ref q_226, .ref q_265, .ref q_307, .ref q_352, .null, .null, .null, .null, .int 0, .null, .int 0, .null]))) q_265 = some (.inl (T 0, 121, .inl (fun _ => 0))) := wd_uk h_379 (Ne.symm ne_269)
  have h_397 : (wd_up σ_383 y (.inr (4, [.int 0, .ref q_1, .ref q_10, .ref q_22, .ref q_37, .ref q_55, .ref q_76, .ref q_100, .ref q_127, .ref q_157, .ref q_190, .ref q_226, .ref q_265, .ref q_307, .ref q_352, .null, .null, .null, .null, .int 0, .null, .int 0, .null]))) q_307 = some (.inl (T 0, 484, .inl (fun _ => 0))) := wd_uk h_381 (Ne.symm ne_311)
  have h_398 : (wd_up σ_383 y (.inr (4, [.int 0, .ref q_1, .ref q_10, .ref q_22, .ref q_37, .ref q_55, .ref q_76, .ref q_100, .ref q_127, .ref q_157, .ref q_190, .ref q_226, .ref q_265, .ref q_307, .ref q_352, .null, .null, .null, .null, .int 0, .null, .int 0, .null]))) q_352 = some (.inl (T 0, 484, .inl (fun _ => 0))) := wd_uk h_354 (Ne.symm ne_356)
  generalize (wd_up σ_383 y (.inr (4, [.int 0, .ref q_1, .ref q_10, .ref q_22, .ref q_37, .ref q_55, .ref q_76, .ref q_100, .ref q_127, .ref q_157, .ref q_190, .ref q_226, .ref q_265, .ref q_307, .ref q_352, .null, .null, .null, .null, .int 0, .null, .int 0, .null]))) = σ_399 at h h_384 h_385 h_386 h_387 h_388 h_389 h_390 h_391 h_392 h_393 h_394 h_395 h_396 h_397 h_398
  refine lv_aload_n hx hb d_M_init_118 rfl (lv_at hl 0 rfl) ?_
  refine lv_bipush (v := 121) hx hb d_M_init_119 (by decide) ?_
  refine wd_newi C h 0 rfl wa_int 121 121 (by decide) (by decide) (by decide) (Nat.le_of_ble_eq_true rfl) (Nat.le_of_ble_eq_true rfl) d_M_init_121 (fun q_400 H hq_401 h => ?_)
  have ne_404 : y ≠ q_400 := wd_nn h_384 hq_401
  have h_403 : (wd_up σ_399 q_400 (.inl (T 0, 121, .inl (fun _ => 0)))) y = some (.inr (4, [.int 0, .ref q_1, .ref q_10, .ref q_22, .ref q_37, .ref q_55, .ref q_76, .ref q_100, .ref q_127, .ref q_157, .ref q_190, .ref q_226, .ref q_265, .ref q_307, .ref q_352, .null, .null, .null, .null, .int 0, .null, .int 0, .null])) := wd_uk h_384 ne_404
  have ne_406 : q_1 ≠ q_400 := wd_nn h_385 hq_401
  have h_405 : (wd_up σ_399 q_400 (.inl (T 0, 121, .inl (fun _ => 0)))) q_1 = some (.inl (T 0, 121, .inl (fun _ => 0))) := wd_uk h_385 ne_406
  have ne_408 : q_10 ≠ q_400 := wd_nn h_386 hq_401
  have h_407 : (wd_up σ_399 q_400 (.inl (T 0, 121, .inl (fun _ => 0)))) q_10 = some (.inl (T 0, 121, .inl (fun _ => 0))) := wd_uk h_386 ne_408
  have ne_410 : q_22 ≠ q_400 := wd_nn h_387 hq_401
  have h_409 : (wd_up σ_399 q_400 (.inl (T 0, 121, .inl (fun _ => 0)))) q_22 = some (.inl (T 0, 121, .inl (fun _ => 0))) := wd_uk h_387 ne_410
  have ne_412 : q_37 ≠ q_400 := wd_nn h_388 hq_401
  have h_411 : (wd_up σ_399 q_400 (.inl (T 0, 121, .inl (fun _ => 0)))) q_37 = some (.inl (T 0, 121, .inl (fun _ => 0))) := wd_uk h_388 ne_412
  have ne_414 : q_55 ≠ q_400 := wd_nn h_389 hq_401
  have h_413 : (wd_up σ_399 q_400 (.inl (T 0, 121, .inl (fun _ => 0)))) q_55 = some (.inl (T 0, 121, .inl (fun _ => 0))) := wd_uk h_389 ne_414
  have ne_416 : q_76 ≠ q_400 := wd_nn h_390 hq_401
  have h_415 : (wd_up σ_399 q_400 (.inl (T 0, 121, .inl (fun _ => 0)))) q_76 = some (.inl (T 0, 121, .inl (fun _ => 0))) := wd_uk h_390 ne_416
  have ne_418 : q_100 ≠ q_400 := wd_nn h_391 hq_401
  have h_417 : (wd_up σ_399 q_400 (.inl (T 0, 121, .inl (fun _ => 0)))) q_100 = some (.inl (T 1, 121, .inl (fun _ => 0))) := wd_uk h_391 ne_418
  have ne_420 : q_127 ≠ q_400 := wd_nn h_392 hq_401
  have h_419 : (wd_up σ_399 q_400 (.inl (T 0, 121, .inl (fun _ => 0)))) q_127 = some (.inl (T 0, 121, .inl (fun _ => 0))) := wd_uk h_392 ne_420
  have ne_422 : q_157 ≠ q_400 := wd_nn h_393 hq_401
  have h_421 : (wd_up σ_399 q_400 (.inl (T 0, 121, .inl (fun _ => 0)))) q_157 = some (.inl (T 0, 121, .inl (fun _ => 0))) := wd_uk h_393 ne_422
  have ne_424 : q_190 ≠ q_400 := wd_nn h_394 hq_401
  have h_423 : (wd_up σ_399 q_400 (.inl (T 0, 121, .inl (fun _ => 0)))) q_190 = some (.inl (T 0, 121, .inl (fun _ => 0))) := wd_uk h_394 ne_424
  have ne_426 : q_226 ≠ q_400 := wd_nn h_395 hq_401
  have h_425 : (wd_up σ_399 q_400 (.inl (T 0, 121, .inl (fun _ => 0)))) q_226 = some (.inl (T 0, 121, .inl (fun _ => 0))) := wd_uk h_395 ne_426
  have ne_428 : q_265 ≠ q_400 := wd_nn h_396 hq_401
  have h_427 : (wd_up σ_399 q_400 (.inl (T 0, 121, .inl (fun _ => 0)))) q_265 = some (.inl (T 0, 121, .inl (fun _ => 0))) := wd_uk h_396 ne_428
  have ne_430 : q_307 ≠ q_400 := wd_nn h_397 hq_401
  have h_429 : (wd_up σ_399 q_400 (.inl (T 0, 121, .inl (fun _ => 0)))) q_307 = some (.inl (T 0, 484, .inl (fun _ => 0))) := wd_uk h_397 ne_430
  have ne_432 : q_352 ≠ q_400 := wd_nn h_398 hq_401
  have h_431 : (wd_up σ_399 q_400 (.inl (T 0, 121, .inl (fun _ => 0)))) q_352 = some (.inl (T 0, 484, .inl (fun _ => 0))) := wd_uk h_398 ne_432
  have h_402 : (wd_up σ_399 q_400 (.inl (T 0, 121, .inl (fun _ => 0)))) q_400 = some (.inl (T 0, 121, .inl (fun _ => 0))) := wd_us _ _ _
  generalize (wd_up σ_399 q_400 (.inl (T 0, 121, .inl (fun _ => 0)))) = σ_433 at h h_403 h_405 h_407 h_409 h_411 h_413 h_415 h_417 h_419 h_421 h_423 h_425 h_427 h_429 h_431 h_402
  refine wd_putF C h kc_M h_403 15 (by decide) lk_M_53 rfl hname rfl (by rfl) (by rfl) (Nat.le_of_ble_eq_true rfl) d_M_init_123 (fun H locs h => ?_)
  replace h : wd_C D T A s H locs (wd_up σ_433 y (.inr (4, [.int 0, .ref q_1, .ref q_10, .ref q_22, .ref q_37, .ref q_55, .ref q_76, .ref q_100, .ref q_127, .ref q_157, .ref q_190, .ref q_226, .ref q_265, .ref q_307, .ref q_352, .ref q_400, .null, .null, .null, .int 0, .null, .int 0, .null]))) := h
  have h_434 : (wd_up σ_433 y (.inr (4, [.int 0, .ref q_1, .ref q_10, .ref q_22, .ref q_37, .ref q_55, .ref q_76, .ref q_100, .ref q_127, .ref q_157, .ref q_190, .ref q_226, .ref q_265, .ref q_307, .ref q_352, .ref q_400, .null, .null, .null, .int 0, .null, .int 0, .null]))) y = some (.inr (4, [.int 0, .ref q_1, .ref q_10, .ref q_22, .ref q_37, .ref q_55, .ref q_76, .ref q_100, .ref q_127, .ref q_157, .ref q_190, .ref q_226, .ref q_265, .ref q_307, .ref q_352, .ref q_400, .null, .null, .null, .int 0, .null, .int 0, .null])) := wd_us _ _ _
  have h_435 : (wd_up σ_433 y (.inr (4, [.int 0, .ref q_1, .ref q_10, .ref q_22, .ref q_37, .ref q_55, .ref q_76, .ref q_100, .ref q_127, .ref q_157, .ref q_190, .ref q_226, .ref q_265, .ref q_307, .ref q_352, .ref q_400, .null, .null, .null, .int 0, .null, .int 0, .null]))) q_1 = some (.inl (T 0, 121, .inl (fun _ => 0))) := wd_uk h_405 (Ne.symm ne_5)
  have h_436 : (wd_up σ_433 y (.inr (4, [.int 0, .ref q_1, .ref q_10, .ref q_22, .ref q_37, .ref q_55, .ref q_76, .ref q_100, .ref q_127, .ref q_157, .ref q_190, .ref q_226, .ref q_265, .ref q_307, .ref q_352, .ref q_400, .null, .null, .null, .int 0, .null, .int 0, .null]))) q_10 = some (.inl (T 0, 121, .inl (fun _ => 0))) := wd_uk h_407 (Ne.symm ne_14)
  have h_437 : (wd_up σ_433 y (.inr (4, [.int 0, .ref q_1, .ref q_10, .ref q_22, .ref q_37, .ref q_55, .ref q_76, .ref q_100, .ref q_127, .ref q_157, .ref q_190, .ref q_226, .ref q_265, .ref q_307, .ref q_352, .ref q_400, .null, .null, .null, .int 0, .null, .int 0, .null]))) q_22 = some (.inl (T 0, 121, .inl (fun _ => 0))) := wd_uk h_409 (Ne.symm ne_26)
  have h_438 : (wd_up σ_433 y (.inr (4, [.int 0, .ref q_1, .ref q_10, .ref q_22, .ref q_37, .ref q_55, .ref q_76, .ref q_100, .ref q_127, .ref q_157, .ref q_190, .ref q_226, .ref q_265, .ref q_307, .ref q_352, .ref q_400, .null, .null, .null, .int 0, .null, .int 0, .null]))) q_37 = some (.inl (T 0, 121, .inl (fun _ => 0))) := wd_uk h_411 (Ne.symm ne_41)
  have h_439 : (wd_up σ_433 y (.inr (4, [.int 0, .ref q_1, .ref q_10, .ref q_22, .ref q_37, .ref q_55, .ref q_76, .ref q_100, .ref q_127, .ref q_157, .ref q_190, .ref q_226, .ref q_265, .ref q_307, .ref q_352, .ref q_400, .null, .null, .null, .int 0, .null, .int 0, .null]))) q_55 = some (.inl (T 0, 121, .inl (fun _ => 0))) := wd_uk h_413 (Ne.symm ne_59)
  have h_440 : (wd_up σ_433 y (.inr (4, [.int 0, .ref q_1, .ref q_10, .ref q_22, .ref q_37, .ref q_55, .ref q_76, .ref q_100, .ref q_127, .ref q_157, .ref q_190, .ref q_226, .ref q_265, .ref q_307, .ref q_352, .ref q_400, .null, .null, .null, .int 0, .null, .int 0, .null]))) q_76 = some (.inl (T 0, 121, .inl (fun _ => 0))) := wd_uk h_415 (Ne.symm ne_80)
  have h_441 : (wd_up σ_433 y (.inr (4, [.int 0, .ref q_1, .ref q_10, .ref q_22, .ref q_37, .ref q_55, .ref q_76, .ref q_100, .ref q_127, .ref q_157, .ref q_190, .ref q_226, .ref q_265, .ref q_307, .ref q_352, .ref q_400, .null, .null, .null, .int 0, .null, .int 0, .null]))) q_100 = some (.inl (T 1, 121, .inl (fun _ => 0))) := wd_uk h_417 (Ne.symm ne_104)
  have h_442 : (wd_up σ_433 y (.inr (4, [.int 0, .ref q_1, .ref q_10, .ref q_22, .ref q_37, .ref q_55, .ref q_76, .ref q_100, .ref q_127, .ref q_157, .ref q_190, .ref q_226, .ref q_265, .ref q_307, .ref q_352, .ref q_400, .null, .null, .null, .int 0, .null, .int 0, .null]))) q_127 = some (.inl (T 0, 121, .inl (fun _ => 0))) := wd_uk h_419 (Ne.symm ne_131)
  have h_443 : (wd_up σ_433 y (.inr (4, [.int 0, .ref q_1, .ref q_10, .ref q_22, .ref q_37, .ref q_55, .ref q_76, .ref q_100, .ref q_127, .ref q_157, .ref q_190, .ref q_226, .ref q_265, .ref q_307, .ref q_352, .ref q_400, .null, .null, .null, .int 0, .null, .int 0, .null]))) q_157 = some (.inl (T 0, 121, .inl (fun _ => 0))) := wd_uk h_421 (Ne.symm ne_161)
  have h_444 : (wd_up σ_433 y (.inr (4, [.int 0, .ref q_1, .ref q_10, .ref q_22, .ref q_37, .ref q_55, .ref q_76, .ref q_100, .ref q_127, .ref q_157, .ref q_190, .ref q_226, .ref q_265, .ref q_307, .ref q_352, .ref q_400, .null, .null, .null, .int 0, .null, .int 0, .null]))) q_190 = some (.inl (T 0, 121, .inl (fun _ => 0))) := wd_uk h_423 (Ne.symm ne_194)
  have h_445 : (wd_up σ_433 y (.inr (4, [.int 0, .ref q_1, .ref q_10, .ref q_22, .ref q_37, .ref q_55, .ref q_76, .ref q_100, .ref q_127, .ref q_157, .ref q_190, .ref q_226, .ref q_265, .ref q_307, .ref q_352, .ref q_400, .null, .null, .null, .int 0, .null, .int 0, .null]))) q_226 = some (.inl (T 0, 121, .inl (fun _ => 0))) := wd_uk h_425 (Ne.symm ne_230)
  have h_446 : (wd_up σ_433 y (.inr (4, [.int 0, .ref q_1, .ref q_10, .ref q_22, .ref q_37, .ref q_55, .ref q_76, .ref q_100, .ref q_127, .ref q_157, .ref q_190, .ref q_226, .ref q_265, .ref q_307, .ref q_352, .ref q_400, .null, .null, .null, .int 0, .null, .int 0, .null]))) q_265 = some (.inl (T 0, 121, .inl (fun _ => 0))) := wd_uk h_427 (Ne.symm ne_269)
  have h_447 : (wd_up σ_433 y (.inr (4, [.int 0, .ref q_1, .ref q_10, .ref q_22, .ref q_37, .ref q_55, .ref q_76, .ref q_100, .ref q_127, .ref q_157, .ref q_190, .ref q_226, .ref q_265, .ref q_307, .ref q_352, .ref q_400, .null, .null, .null, .int 0, .null, .int 0, .null]))) q_307 = some (.inl (T 0, 484, .inl (fun _ => 0))) := wd_uk h_429 (Ne.symm ne_311)
  have h_448 : (wd_up σ_433 y (.inr (4, [.int 0, .ref q_1, .ref q_10, .ref q_22, .ref q_37, .ref q_55, .ref q_76, .ref q_100, .ref q_127, .ref q_157, .ref q_190, .ref q_226, .ref q_265, .ref q_307, .ref q_352, .ref q_400, .null, .null, .null, .int 0, .null, .int 0, .null]))) q_352 = some (.inl (T 0, 484, .inl (fun _ => 0))) := wd_uk h_431 (Ne.symm ne_356)
  have h_449 : (wd_up σ_433 y (.inr (4, [.int 0, .ref q_1, .ref q_10, .ref q_22, .ref q_37, .ref q_55, .ref q_76, .ref q_100, .ref q_127, .ref q_157, .ref q_190, .ref q_226, .ref q_265, .ref q_307, .ref q_352, .ref q_400, .null, .null, .null, .int 0, .null, .int 0, .null]))) q_400 = some (.inl (T 0, 121, .inl (fun _ => 0))) := wd_uk h_402 (Ne.symm ne_404)
  generalize (wd_up σ_433 y (.inr (4, [.int 0, .ref q_1, .ref q_10, .ref q_22, .ref q_37, .ref q_55, .ref q_76, .ref q_100, .ref q_127, .ref q_157, .ref q_190, .ref q_226, .ref q_265, .ref q_307, .ref q_352, .ref q_400, .null, .null, .null, .int 0, .null, .int 0, .null]))) = σ_450 at h h_434 h_435 h_436 h_437 h_438 h_439 h_440 h_441 h_442 h_443 h_444 h_445 h_446 h_447 h_448 h_449
  refine lv_aload_n hx hb d_M_init_126 rfl (lv_at hl 0 rfl) ?_
  refine lv_bipush (v := 31) hx hb d_M_init_127 (by decide) ?_
  refine wd_newz C h 1 rfl wa_boolean 31 31 (by decide) (by decide) (by decide) (Nat.le_of_ble_eq_true rfl) (Nat.le_of_ble_eq_true rfl) d_M_init_129 (fun q_451 H hq_452 h => ?_)
  have ne_455 : y ≠ q_451 := wd_nn h_434 hq_452
  have h_454 : (wd_up σ_450 q_451 (.inl (T 1, 31, .inl (fun _ => 0)))) y = some (.inr (4, [.int 0, .ref q_1, .ref q_10, .ref q_22, .ref q_37, .ref q_55, .ref q_76, .ref q_100, .ref q_127, .ref q_157, .ref q_190, .ref q_226, .ref q_265, .ref q_307, .ref q_352, .ref q_400, .null, .null, .null, .int 0, .null, .int 0, .null])) := wd_uk h_434 ne_455
  have ne_457 : q_1 ≠ q_451 := wd_nn h_435 hq_452
  have h_456 : (wd_up σ_450 q_451 (.inl (T 1, 31, .inl (fun _ => 0)))) q_1 = some (.inl (T 0, 121, .inl (fun _ => 0))) := wd_uk h_435 ne_457
  have ne_459 : q_10 ≠ q_451 := wd_nn h_436 hq_452
  have h_458 : (wd_up σ_450 q_451 (.inl (T 1, 31, .inl (fun _ => 0)))) q_10 = some (.inl (T 0, 121, .inl (fun _ => 0))) := wd_uk h_436 ne_459
  have ne_461 : q_22 ≠ q_451 := wd_nn h_437 hq_452
  have h_460 : (wd_up σ_450 q_451 (.inl (T 1, 31, .inl (fun _ => 0)))) q_22 = some (.inl (T 0, 121, .inl (fun _ => 0))) := wd_uk h_437 ne_461
  have ne_463 : q_37 ≠ q_451 := wd_nn h_438 hq_452
  have h_462 : (wd_up σ_450 q_451 (.inl (T 1, 31, .inl (fun _ => 0)))) q_37 = some (.inl (T 0, 121, .inl (fun _ => 0))) := wd_uk h_438 ne_463
  have ne_465 : q_55 ≠ q_451 := wd_nn h_439 hq_452
  have h_464 : (wd_up σ_450 q_451 (.inl (T 1, 31, .inl (fun _ => 0)))) q_55 = some (.inl (T 0, 121, .inl (fun _ => 0))) := wd_uk h_439 ne_465
  have ne_467 : q_76 ≠ q_451 := wd_nn h_440 hq_452
  have h_466 : (wd_up σ_450 q_451 (.inl (T 1, 31, .inl (fun _ => 0)))) q_76 = some (.inl (T 0, 121, .inl (fun _ => 0))) := wd_uk h_440 ne_467
  have ne_469 : q_100 ≠ q_451 := wd_nn h_441 hq_452
  have h_468 : (wd_up σ_450 q_451 (.inl (T 1, 31, .inl (fun _ => 0)))) q_100 = some (.inl (T 1, 121, .inl (fun _ => 0))) := wd_uk h_441 ne_469
  have ne_471 : q_127 ≠ q_451 := wd_nn h_442 hq_452
  have h_470 : (wd_up σ_450 q_451 (.inl (T 1, 31, .inl (fun _ => 0)))) q_127 = some (.inl (T 0, 121, .inl (fun _ => 0))) := wd_uk h_442 ne_471
  have ne_473 : q_157 ≠ q_451 := wd_nn h_443 hq_452
  have h_472 : (wd_up σ_450 q_451 (.inl (T 1, 31, .inl (fun _ => 0)))) q_157 = some (.inl (T 0, 121, .inl (fun _ => 0))) := wd_uk h_443 ne_473
  have ne_475 : q_190 ≠ q_451 := wd_nn h_444 hq_452
  have h_474 : (wd_up σ_450 q_451 (.inl (T 1, 31, .inl (fun _ => 0)))) q_190 = some (.inl (T 0, 121, .inl (fun _ => 0))) := wd_uk h_444 ne_475
  have ne_477 : q_226 ≠ q_451 := wd_nn h_445 hq_452
  have h_476 : (wd_up σ_450 q_451 (.inl (T 1, 31, .inl (fun _ => 0)))) q_226 = some (.inl (T 0, 121, .inl (fun _ => 0))) := wd_uk h_445 ne_477
  have ne_479 : q_265 ≠ q_451 := wd_nn h_446 hq_452
  have h_478 : (wd_up σ_450 q_451 (.inl (T 1, 31, .inl (fun _ => 0)))) q_265 = some (.inl (T 0, 121, .inl (fun _ => 0))) := wd_uk h_446 ne_479
  have ne_481 : q_307 ≠ q_451 := wd_nn h_447 hq_452
  have h_480 : (wd_up σ_450 q_451 (.inl (T 1, 31, .inl (fun _ => 0)))) q_307 = some (.inl (T 0, 484, .inl (fun _ => 0))) := wd_uk h_447 ne_481
  have ne_483 : q_352 ≠ q_451 := wd_nn h_448 hq_452
  have h_482 : (wd_up σ_450 q_451 (.inl (T 1, 31, .inl (fun _ => 0)))) q_352 = some (.inl (T 0, 484, .inl (fun _ => 0))) := wd_uk h_448 ne_483
  have ne_485 : q_400 ≠ q_451 := wd_nn h_449 hq_452
  have h_484 : (wd_up σ_450 q_451 (.inl (T 1, 31, .inl (fun _ => 0)))) q_400 = some (.inl (T 0, 121, .inl (fun _ => 0))) := wd_uk h_449 ne_485
  have h_453 : (wd_up σ_450 q_451 (.inl (T 1, 31, .inl (fun _ => 0)))) q_451 = some (.inl (T 1, 31, .inl (fun _ => 0))) := wd_us _ _ _
  generalize (wd_up σ_450 q_451 (.inl (T 1, 31, .inl (fun _ => 0)))) = σ_486 at h h_454 h_456 h_458 h_460 h_462 h_464 h_466 h_468 h_470 h_472 h_474 h_476 h_478 h_480 h_482 h_484 h_453
  refine wd_putF C h kc_M h_454 16 (by decide) lk_M_56 rfl hname rfl (by rfl) (by rfl) (Nat.le_of_ble_eq_true rfl) d_M_init_131 (fun H locs h => ?_)
  replace h : wd_C D T A s H locs (wd_up σ_486 y (.inr (4, [.int 0, .ref q_1, .ref q_10, .ref q_22, .ref q_37, .ref q_55, .ref q_76, .ref q_100, .ref q_127, .ref q_157, .ref q_190, .ref q_226, .ref q_265, .ref q_307, .ref q_352, .ref q_400, .ref q_451, .null, .null, .int 0, .null, .int 0, .null]))) := h
  have h_487 : (wd_up σ_486 y (.inr (4, [.int 0, .ref q_1, .ref q_10, .ref q_22, .ref q_37, .ref q_55, .ref q_76, .ref q_100, .ref q_127, .ref q_157, .ref q_190, .ref q_226, .ref q_265, .ref q_307, .ref q_352, .ref q_400, .ref q_451, .null, .null, .int 0, .null, .int 0, .null]))) y = some (.inr (4, [.int 0, .ref q_1, .ref q_10, .ref q_22, .ref q_37, .ref q_55, .ref q_76, .ref q_100, .ref q_127, .ref q_157, .ref q_190, .ref q_226, .ref q_265, .ref q_307, .ref q_352, .ref q_400, .ref q_451, .null, .null, .int 0, .null, .int 0, .null])) := wd_us _ _ _
  have h_488 : (wd_up σ_486 y (.inr (4, [.int 0, .ref q_1, .ref q_10, .ref q_22, .ref q_37, .ref q_55, .ref q_76, .ref q_100, .ref q_127, .ref q_157, .ref q_190, .ref q_226, .ref q_265, .ref q_307, .ref q_352, .ref q_400, .ref q_451, .null, .null, .int 0, .null, .int 0, .null]))) q_1 = some (.inl (T 0, 121, .inl (fun _ => 0))) := wd_uk h_456 (Ne.symm ne_5)
  have h_489 : (wd_up σ_486 y (.inr (4, [.int 0, .ref q_1, .ref q_10, .ref q_22, .ref q_37, .ref q_55, .ref q_76, .ref q_100, .ref q_127, .ref q_157, .ref q_190, .ref q_226, .ref q_265, .ref q_307, .ref q_352, .ref q_400, .ref q_451, .null, .null, .int 0, .null, .int 0, .null]))) q_10 = some (.inl (T 0, 121, .inl (fun _ => 0))) := wd_uk h_458 (Ne.symm ne_14)
  have h_490 : (wd_up σ_486 y (.inr (4, [.int 0, .ref q_1, .ref q_10, .ref q_22, .ref q_37, .ref q_55, .ref q_76, .ref q_100, .ref q_127, .ref q_157, .ref q_190, .ref q_226, .ref q_265, .ref q_307, .ref q_352, .ref q_400, .ref q_451, .null, .null, .int 0, .null, .int 0, .null]))) q_22 = some (.inl (T 0, 121, .inl (fun _ => 0))) := wd_uk h_460 (Ne.symm ne_26)
  have h_491 : (wd_up σ_486 y (.inr (4, [.int 0, .ref q_1, .ref q_10, .ref q_22, .ref q_37, .ref q_55, .ref q_76, .ref q_100, .ref q_127, .ref q_157, .ref q_190, .ref q_226, .ref q_265, .ref q_307, .ref q_352, .ref q_400, .ref q_451, .null, .null, .int 0, .null, .int 0, .null]))) q_37 = some (.inl (T 0, 121, .inl (fun _ => 0))) := wd_uk h_462 (Ne.symm ne_41)
  have h_492 : (wd_up σ_486 y (.inr (4, [.int 0, .ref q_1, .ref q_10, .ref q_22, .ref q_37, .ref q_55, .ref q_76, .ref q_100, .ref q_127, .ref q_157, .ref q_190, .ref q_226, .ref q_265, .ref q_307, .ref q_352, .ref q_400, .ref q_451, .null, .null, .int 0, .null, .int 0, .null]))) q_55 = some (.inl (T 0, 121, .inl (fun _ => 0))) := wd_uk h_464 (Ne.symm ne_59)
  have h_493 : (wd_up σ_486 y (.inr (4, [.int 0, .ref q_1, .ref q_10, .ref q_22, .ref q_37, .ref q_55, .ref q_76, .ref q_100, .ref q_127, .ref q_157, .ref q_190, .ref q_226, .ref q_265, .ref q_307, .ref q_352, .ref q_400, .ref q_451, .null, .null, .int 0, .null, .int 0, .null]))) q_76 = some (.inl (T 0, 121, .inl (fun _ => 0))) := wd_uk h_466 (Ne.symm ne_80)
  have h_494 : (wd_up σ_486 y (.inr (4, [.int 0, .ref q_1, .ref q_10, .ref q_22, .ref q_37, .ref q_55, .ref q_76, .ref q_100, .ref q_127, .ref q_157, .ref q_190, .ref q_226, .ref q_265, .ref q_307, .ref q_352, .ref q_400, .ref q_451, .null, .null, .int 0, .null, .int 0, .null]))) q_100 = some (.inl (T 1, 121, .inl (fun _ => 0))) := wd_uk h_468 (Ne.symm ne_104)
  have h_495 : (wd_up σ_486 y (.inr (4, [.int 0, .ref q_1, .ref q_10, .ref q_22, .ref q_37, .ref q_55, .ref q_76, .ref q_100, .ref q_127, .ref q_157, .ref q_190, .ref q_226, .ref q_265, .ref q_307, .ref q_352, .ref q_400, .ref q_451, .null, .null, .int 0, .null, .int 0, .null]))) q_127 = some (.inl (T 0, 121, .inl (fun _ => 0))) := wd_uk h_470 (Ne.symm ne_131)
  have h_496 : (wd_up σ_486 y (.inr (4, [.int 0, .ref q_1, .ref q_10, .ref q_22, .ref q_37, .ref q_55, .ref q_76, .ref q_100, .ref q_127, .ref q_157, .ref q_190, .ref q_226, .ref q_265, .ref q_307, .ref q_352, .ref q_400, .ref q_451, .null, .null, .int 0, .null, .int 0, .null]))) q_157 = some (.inl (T 0, 121, .inl (fun _ => 0))) := wd_uk h_472 (Ne.symm ne_161)
  have h_497 : (wd_up σ_486 y (.inr (4, [.int 0, .ref q_1, .ref q_10, .ref q_22, .ref q_37, .ref q_55, .ref q_76, .ref q_100, .ref q_127, .ref q_157, .ref q_190, .ref q_226, .ref q_265, .ref q_307, .ref q_352, .ref q_400, .ref q_451, .null, .null, .int 0, .null, .int 0, .null]))) q_190 = some (.inl (T 0, 121, .inl (fun _ => 0))) := wd_uk h_474 (Ne.symm ne_194)
  have h_498 : (wd_up σ_486 y (.inr (4, [.int 0, .ref q_1, .ref q_10, .ref q_22, .ref q_37, .ref q_55, .ref q_76, .ref q_100, .ref q_127, .ref q_157, .ref q_190, .ref q_226, .ref q_265, .ref q_307, .ref q_352, .ref q_400, .ref q_451, .null, .null, .int 0, .null, .int 0, .null]))) q_226 = some (.inl (T 0, 121, .inl (fun _ => 0))) := wd_uk h_476 (Ne.symm ne_230)
  have h_499 : (wd_up σ_486 y (.inr (4, [.int 0, .ref q_1, .ref q_10, .ref q_22, .ref q_37, .ref q_55, .ref q_76, .ref q_100, .ref q_127, .ref q_157, .ref q_190, .ref q_226, .ref q_265, .ref q_307, .ref q_352, .ref q_400, .ref q_451, .null, .null, .int 0, .null, .int 0, .null]))) q_265 = some (.inl (T 0, 121, .inl (fun _ => 0))) := wd_uk h_478 (Ne.symm ne_269)
  have h_500 : (wd_up σ_486 y (.inr (4, [.int 0, .ref q_1, .ref q_10, .ref q_22, .ref q_37, .ref q_55, .ref q_76, .ref q_100, .ref q_127, .ref q_157, .ref q_190, .ref q_226, .ref q_265, .ref q_307, .ref q_352, .ref q_400, .ref q_451, .null, .null, .int 0, .null, .int 0, .null]))) q_307 = some (.inl (T 0, 484, .inl (fun _ => 0))) := wd_uk h_480 (Ne.symm ne_311)
  have h_501 : (wd_up σ_486 y (.inr (4, [.int 0, .ref q_1, .ref q_10, .ref q_22, .ref q_37, .ref q_55, .ref q_76, .ref q_100, .ref q_127, .ref q_157, .ref q_190, .ref q_226, .ref q_265, .ref q_307, .ref q_352, .ref q_400, .ref q_451, .null, .null, .int 0, .null, .int 0, .null]))) q_352 = some (.inl (T 0, 484, .inl (fun _ => 0))) := wd_uk h_482 (Ne.symm ne_356)
  have h_502 : (wd_up σ_486 y (.inr (4, [.int 0, .ref q_1, .ref q_10, .ref q_22, .ref q_37, .ref q_55, .ref q_76, .ref q_100, .ref q_127, .ref q_157, .ref q_190, .ref q_226, .ref q_265, .ref q_307, .ref q_352, .ref q_400, .ref q_451, .null, .null, .int 0, .null, .int 0, .null]))) q_400 = some (.inl (T 0, 121, .inl (fun _ => 0))) := wd_uk h_484 (Ne.symm ne_404)
  have h_503 : (wd_up σ_486 y (.inr (4, [.int 0, .ref q_1, .ref q_10, .ref q_22, .ref q_37, .ref q_55, .ref q_76, .ref q_100, .ref q_127, .ref q_157, .ref q_190, .ref q_226, .ref q_265, .ref q_307, .ref q_352, .ref q_400, .ref q_451, .null, .null, .int 0, .null, .int 0, .null]))) q_451 = some (.inl (T 1, 31, .inl (fun _ => 0))) := wd_uk h_453 (Ne.symm ne_455)
  generalize (wd_up σ_486 y (.inr (4, [.int 0, .ref q_1, .ref q_10, .ref q_22, .ref q_37, .ref q_55, .ref q_76, .ref q_100, .ref q_127, .ref q_157, .ref q_190, .ref q_226, .ref q_265, .ref q_307, .ref q_352, .ref q_400, .ref q_451, .null, .null, .int 0, .null, .int 0, .null]))) = σ_504 at h h_487 h_488 h_489 h_490 h_491 h_492 h_493 h_494 h_495 h_496 h_497 h_498 h_499 h_500 h_501 h_502 h_503
  refine lv_aload_n hx hb d_M_init_134 rfl (lv_at hl 0 rfl) ?_
  refine lv_bipush (v := 121) hx hb d_M_init_135 (by decide) ?_
  refine wd_newi C h 0 rfl wa_int 121 121 (by decide) (by decide) (by decide) (Nat.le_of_ble_eq_true rfl) (Nat.le_of_ble_eq_true rfl) d_M_init_137 (fun q_505 H hq_506 h => ?_)
  have ne_509 : y ≠ q_505 := wd_nn h_487 hq_506
  have h_508 : (wd_up σ_504 q_505 (.inl (T 0, 121, .inl (fun _ => 0)))) y = some (.inr (4, [.int 0, .ref q_1, .ref q_10, .ref q_22, .ref q_37, .ref q_55, .ref q_76, .ref q_100, .ref q_127, .ref q_157, .ref q_190, .ref q_226, .ref q_265, .ref q_307, .ref q_352, .ref q_400, .ref q_451, .null, .null, .int 0, .null, .int 0, .null])) := wd_uk h_487 ne_509
  have ne_511 : q_1 ≠ q_505 := wd_nn h_488 hq_506
  have h_510 : (wd_up σ_504 q_505 (.inl (T 0, 121, .inl (fun _ => 0)))) q_1 = some (.inl (T 0, 121, .inl (fun _ => 0))) := wd_uk h_488 ne_511
  have ne_513 : q_10 ≠ q_505 := wd_nn h_489 hq_506
  have h_512 : (wd_up σ_504 q_505 (.inl (T 0, 121, .inl (fun _ => 0)))) q_10 = some (.inl (T 0, 121, .inl (fun _ => 0))) := wd_uk h_489 ne_513
  have ne_515 : q_22 ≠ q_505 := wd_nn h_490 hq_506
  have h_514 : (wd_up σ_504 q_505 (.inl (T 0, 121, .inl (fun _ => 0)))) q_22 = some (.inl (T 0, 121, .inl (fun _ => 0))) := wd_uk h_490 ne_515
  have ne_517 : q_37 ≠ q_505 := wd_nn h_491 hq_506
  have h_516 : (wd_up σ_504 q_505 (.inl (T 0, 121, .inl (fun _ => 0)))) q_37 = some (.inl (T 0, 121, .inl (fun _ => 0))) := wd_uk h_491 ne_517
  have ne_519 : q_55 ≠ q_505 := wd_nn h_492 hq_506
  have h_518 : (wd_up σ_504 q_505 (.inl (T 0, 121, .inl (fun _ => 0)))) q_55 = some (.inl (T 0, 121, .inl (fun _ => 0))) := wd_uk h_492 ne_519
  have ne_521 : q_76 ≠ q_505 := wd_nn h_493 hq_506
  have h_520 : (wd_up σ_504 q_505 (.inl (T 0, 121, .inl (fun _ => 0)))) q_76 = some (.inl (T 0, 121, .inl (fun _ => 0))) := wd_uk h_493 ne_521
  have ne_523 : q_100 ≠ q_505 := wd_nn h_494 hq_506
  have h_522 : (wd_up σ_504 q_505 (.inl (T 0, 121, .inl (fun _ => 0)))) q_100 = some (.inl (T 1, 121, .inl (fun _ => 0))) := wd_uk h_494 ne_523
  have ne_525 : q_127 ≠ q_505 := wd_nn h_495 hq_506
  have h_524 : (wd_up σ_504 q_505 (.inl (T 0, 121, .inl (fun _ => 0)))) q_127 = some (.inl (T 0, 121, .inl (fun _ => 0))) := wd_uk h_495 ne_525
  have ne_527 : q_157 ≠ q_505 := wd_nn h_496 hq_506
  have h_526 : (wd_up σ_504 q_505 (.inl (T 0, 121, .inl (fun _ => 0)))) q_157 = some (.inl (T 0, 121, .inl (fun _ => 0))) := wd_uk h_496 ne_527
  have ne_529 : q_190 ≠ q_505 := wd_nn h_497 hq_506
  have h_528 : (wd_up σ_504 q_505 (.inl (T 0, 121, .inl (fun _ => 0)))) q_190 = some (.inl (T 0, 121, .inl (fun _ => 0))) := wd_uk h_497 ne_529
  have ne_531 : q_226 ≠ q_505 := wd_nn h_498 hq_506
  have h_530 : (wd_up σ_504 q_505 (.inl (T 0, 121, .inl (fun _ => 0)))) q_226 = some (.inl (T 0, 121, .inl (fun _ => 0))) := wd_uk h_498 ne_531
  have ne_533 : q_265 ≠ q_505 := wd_nn h_499 hq_506
  have h_532 : (wd_up σ_504 q_505 (.inl (T 0, 121, .inl (fun _ => 0)))) q_265 = some (.inl (T 0, 121, .inl (fun _ => 0))) := wd_uk h_499 ne_533
  have ne_535 : q_307 ≠ q_505 := wd_nn h_500 hq_506
  have h_534 : (wd_up σ_504 q_505 (.inl (T 0, 121, .inl (fun _ => 0)))) q_307 = some (.inl (T 0, 484, .inl (fun _ => 0))) := wd_uk h_500 ne_535
  have ne_537 : q_352 ≠ q_505 := wd_nn h_501 hq_506
  have h_536 : (wd_up σ_504 q_505 (.inl (T 0, 121, .inl (fun _ => 0)))) q_352 = some (.inl (T 0, 484, .inl (fun _ => 0))) := wd_uk h_501 ne_537
  have ne_539 : q_400 ≠ q_505 := wd_nn h_502 hq_506
  have h_538 : (wd_up σ_504 q_505 (.inl (T 0, 121, .inl (fun _ => 0)))) q_400 = some (.inl (T 0, 121, .inl (fun _ => 0))) := wd_uk h_502 ne_539
  have ne_541 : q_451 ≠ q_505 := wd_nn h_503 hq_506
  have h_540 : (wd_up σ_504 q_505 (.inl (T 0, 121, .inl (fun _ => 0)))) q_451 = some (.inl (T 1, 31, .inl (fun _ => 0))) := wd_uk h_503 ne_541
  have h_507 : (wd_up σ_504 q_505 (.inl (T 0, 121, .inl (fun _ => 0)))) q_505 = some (.inl (T 0, 121, .inl (fun _ => 0))) := wd_us _ _ _
  generalize (wd_up σ_504 q_505 (.inl (T 0, 121, .inl (fun _ => 0)))) = σ_542 at h h_508 h_510 h_512 h_514 h_516 h_518 h_520 h_522 h_524 h_526 h_528 h_530 h_532 h_534 h_536 h_538 h_540 h_507
  refine wd_putF C h kc_M h_508 17 (by decide) lk_M_59 rfl hname rfl (by rfl) (by rfl) (Nat.le_of_ble_eq_true rfl) d_M_init_139 (fun H locs h => ?_)
  replace h : wd_C D T A s H locs (wd_up σ_542 y (.inr (4, [.int 0, .ref q_1, .ref q_10, .ref q_22, .ref q_37, .ref q_55, .ref q_76, .ref q_100, .ref q_127, .ref q_157, .ref q_190, .ref q_226, .ref q_265, .ref q_307, .ref q_352, .ref q_400, .ref q_451, .ref q_505, .null, .int 0, .null, .int 0, .null]))) := h
  have h_543 : (wd_up σ_542 y (.inr (4, [.int 0, .ref q_1, .ref q_10, .ref q_22, .ref q_37, .ref q_55, .ref q_76, .ref q_100, .ref q_127, .ref q_157, .ref q_190, .ref q_226, .ref q_265, .ref q_307, .ref q_352, .ref q_400, .ref q_451, .ref q_505, .null, .int 0, .null, .int 0, .null]))) y = some (.inr (4, [.int 0, .ref q_1, .ref q_10, .ref q_22, .ref q_37, .ref q_55, .ref q_76, .ref q_100, .ref q_127, .ref q_157, .ref q_190, .ref q_226, .ref q_265, .ref q_307, .ref q_352, .ref q_400, .ref q_451, .ref q_505, .null, .int 0, .null, .int 0, .null])) := wd_us _ _ _
  have h_544 : (wd_up σ_542 y (.inr (4, [.int 0, .ref q_1, .ref q_10, .ref q_22, .ref q_37, .ref q_55, .ref q_76, .ref q_100, .ref q_127, .ref q_157, .ref q_190, .ref q_226, .ref q_265, .ref q_307, .ref q_352, .ref q_400, .ref q_451, .ref q_505, .null, .int 0, .null, .int 0, .null]))) q_1 = some (.inl (T 0, 121, .inl (fun _ => 0))) := wd_uk h_510 (Ne.symm ne_5)
  have h_545 : (wd_up σ_542 y (.inr (4, [.int 0, .ref q_1, .ref q_10, .ref q_22, .ref q_37, .ref q_55, .ref q_76, .ref q_100, .ref q_127, .ref q_157, .ref q_190, .ref q_226, .ref q_265, .ref q_307, .ref q_352, .ref q_400, .ref q_451, .ref q_505, .null, .int 0, .null, .int 0, .null]))) q_10 = some (.inl (T 0, 121, .inl (fun _ => 0))) := wd_uk h_512 (Ne.symm ne_14)
  have h_546 : (wd_up σ_542 y (.inr (4, [.int 0, .ref q_1, .ref q_10, .ref q_22, .ref q_37, .ref q_55, .ref q_76, .ref q_100, .ref q_127, .ref q_157, .ref q_190, .ref q_226, .ref q_265, .ref q_307, .ref q_352, .ref q_400, .ref q_451, .ref q_505, .null, .int 0, .null, .int 0, .null]))) q_22 = some (.inl (T 0, 121, .inl (fun _ => 0))) := wd_uk h_514 (Ne.symm ne_26)
  have h_547 : (wd_up σ_542 y (.inr (4, [.int 0, .ref q_1, .ref q_10, .ref q_22, .ref q_37, .ref q_55, .ref q_76, .ref q_100, .ref q_127, .ref q_157, .ref q_190, .ref q_226, .ref q_265, .ref q_307, .ref q_352, .ref q_400, .ref q_451, .ref q_505, .null, .int 0, .null, .int 0, .null]))) q_37 = some (.inl (T 0, 121, .inl (fun _ => 0))) := wd_uk h_516 (Ne.symm ne_41)
  have h_548 : (wd_up σ_542 y (.inr (4, [.int 0, .ref q_1, .ref q_10, .ref q_22, .ref q_37, .ref q_55, .ref q_76, .ref q_100, .ref q_127, .ref q_157, .ref q_190, .ref q_226, .ref q_265, .ref q_307, .ref q_352, .ref q_400, .ref q_451, .ref q_505, .null, .int 0, .null, .int 0, .null]))) q_55 = some (.inl (T 0, 121, .inl (fun _ => 0))) := wd_uk h_518 (Ne.symm ne_59)
  have h_549 : (wd_up σ_542 y (.inr (4, [.int 0, .ref q_1, .ref q_10, .ref q_22, .ref q_37, .ref q_55, .ref q_76, .ref q_100, .ref q_127, .ref q_157, .ref q_190, .ref q_226, .ref q_265, .ref q_307, .ref q_352, .ref q_400, .ref q_451, .ref q_505, .null, .int 0, .null, .int 0, .null]))) q_76 = some (.inl (T 0, 121, .inl (fun _ => 0))) := wd_uk h_520 (Ne.symm ne_80)
  have h_550 : (wd_up σ_542 y (.inr (4, [.int 0, .ref q_1, .ref q_10, .ref q_22, .ref q_37, .ref q_55, .ref q_76, .ref q_100, .ref q_127, .ref q_157, .ref q_190, .ref q_226, .ref q_265, .ref q_307, .ref q_352, .ref q_400, .ref q_451, .ref q_505, .null, .int 0, .null, .int 0, .null]))) q_100 = some (.inl (T 1, 121, .inl (fun _ => 0))) := wd_uk h_522 (Ne.symm ne_104)
  have h_551 : (wd_up σ_542 y (.inr (4, [.int 0, .ref q_1, .ref q_10, .ref q_22, .ref q_37, .ref q_55, .ref q_76, .ref q_100, .ref q_127, .ref q_157, .ref q_190, .ref q_226, .ref q_265, .ref q_307, .ref q_352, .ref q_400, .ref q_451, .ref q_505, .null, .int 0, .null, .int 0, .null]))) q_127 = some (.inl (T 0, 121, .inl (fun _ => 0))) := wd_uk h_524 (Ne.symm ne_131)
  have h_552 : (wd_up σ_542 y (.inr (4, [.int 0, .ref q_1, .ref q_10, .ref q_22, .ref q_37, .ref q_55, .ref q_76, .ref q_100, .ref q_127, .ref q_157, .ref q_190, .ref q_226, .ref q_265, .ref q_307, .ref q_352, .ref q_400, .ref q_451, .ref q_505, .null, .int 0, .null, .int 0, .null]))) q_157 = some (.inl (T 0, 121, .inl (fun _ => 0))) := wd_uk h_526 (Ne.symm ne_161)
  have h_553 : (wd_up σ_542 y (.inr (4, [.int 0, .ref q_1, .ref q_10, .ref q_22, .ref q_37, .ref q_55, .ref q_76, .ref q_100, .ref q_127, .ref q_157, .ref q_190, .ref q_226, .ref q_265, .ref q_307, .ref q_352, .ref q_400, .ref q_451, .ref q_505, .null, .int 0, .null, .int 0, .null]))) q_190 = some (.inl (T 0, 121, .inl (fun _ => 0))) := wd_uk h_528 (Ne.symm ne_194)
  have h_554 : (wd_up σ_542 y (.inr (4, [.int 0, .ref q_1, .ref q_10, .ref q_22, .ref q_37, .ref q_55, .ref q_76, .ref q_100, .ref q_127, .ref q_157, .ref q_190, .ref q_226, .ref q_265, .ref q_307, .ref q_352, .ref q_400, .ref q_451, .ref q_505, .null, .int 0, .null, .int 0, .null]))) q_226 = some (.inl (T 0, 121, .inl (fun _ => 0))) := wd_uk h_530 (Ne.symm ne_230)
  have h_555 : (wd_up σ_542 y (.inr (4, [.int 0, .ref q_1, .ref q_10, .ref q_22, .ref q_37, .ref q_55, .ref q_76, .ref q_100, .ref q_127, .ref q_157, .ref q_190, .ref q_226, .ref q_265, .ref q_307, .ref q_352, .ref q_400, .ref q_451, .ref q_505, .null, .int 0, .null, .int 0, .null]))) q_265 = some (.inl (T 0, 121, .inl (fun _ => 0))) := wd_uk h_532 (Ne.symm ne_269)
  have h_556 : (wd_up σ_542 y (.inr (4, [.int 0, .ref q_1, .ref q_10, .ref q_22, .ref q_37, .ref q_55, .ref q_76, .ref q_100, .ref q_127, .ref q_157, .ref q_190, .ref q_226, .ref q_265, .ref q_307, .ref q_352, .ref q_400, .ref q_451, .ref q_505, .null, .int 0, .null, .int 0, .null]))) q_307 = some (.inl (T 0, 484, .inl (fun _ => 0))) := wd_uk h_534 (Ne.symm ne_311)
  have h_557 : (wd_up σ_542 y (.inr (4, [.int 0, .ref q_1, .ref q_10, .ref q_22, .ref q_37, .ref q_55, .ref q_76, .ref q_100, .ref q_127, .ref q_157, .ref q_190, .ref q_226, .ref q_265, .ref q_307, .ref q_352, .ref q_400, .ref q_451, .ref q_505, .null, .int 0, .null, .int 0, .null]))) q_352 = some (.inl (T 0, 484, .inl (fun _ => 0))) := wd_uk h_536 (Ne.symm ne_356)
  have h_558 : (wd_up σ_542 y (.inr (4, [.int 0, .ref q_1, .ref q_10, .ref q_22, .ref q_37, .ref q_55, .ref q_76, .ref q_100, .ref q_127, .ref q_157, .ref q_190, .ref q_226, .ref q_265, .ref q_307, .ref q_352, .ref q_400, .ref q_451, .ref q_505, .null, .int 0, .null, .int 0, .null]))) q_400 = some (.inl (T 0, 121, .inl (fun _ => 0))) := wd_uk h_538 (Ne.symm ne_404)
  have h_559 : (wd_up σ_542 y (.inr (4, [.int 0, .ref q_1, .ref q_10, .ref q_22, .ref q_37, .ref q_55, .ref q_76, .ref q_100, .ref q_127, .ref q_157, .ref q_190, .ref q_226, .ref q_265, .ref q_307, .ref q_352, .ref q_400, .ref q_451, .ref q_505, .null, .int 0, .null, .int 0, .null]))) q_451 = some (.inl (T 1, 31, .inl (fun _ => 0))) := wd_uk h_540 (Ne.symm ne_455)
  have h_560 : (wd_up σ_542 y (.inr (4, [.int 0, .ref q_1, .ref q_10, .ref q_22, .ref q_37, .ref q_55, .ref q_76, .ref q_100, .ref q_127, .ref q_157, .ref q_190, .ref q_226, .ref q_265, .ref q_307, .ref q_352, .ref q_400, .ref q_451, .ref q_505, .null, .int 0, .null, .int 0, .null]))) q_505 = some (.inl (T 0, 121, .inl (fun _ => 0))) := wd_uk h_507 (Ne.symm ne_509)
  generalize (wd_up σ_542 y (.inr (4, [.int 0, .ref q_1, .ref q_10, .ref q_22, .ref q_37, .ref q_55, .ref q_76, .ref q_100, .ref q_127, .ref q_157, .ref q_190, .ref q_226, .ref q_265, .ref q_307, .ref q_352, .ref q_400, .ref q_451, .ref q_505, .null, .int 0, .null, .int 0, .null]))) = σ_561 at h h_543 h_544 h_545 h_546 h_547 h_548 h_549 h_550 h_551 h_552 h_553 h_554 h_555 h_556 h_557 h_558 h_559 h_560
  refine lv_aload_n hx hb d_M_init_142 rfl (lv_at hl 0 rfl) ?_
  refine lv_bipush (v := 121) hx hb d_M_init_143 (by decide) ?_
  refine wd_newi C h 0 rfl wa_int 121 121 (by decide) (by decide) (by decide) (Nat.le_of_ble_eq_true rfl) (Nat.le_of_ble_eq_true rfl) d_M_init_145 (fun q_562 H hq_563 h => ?_)
  have ne_566 : y ≠ q_562 := wd_nn h_543 hq_563
  have h_565 : (wd_up σ_561 q_562 (.inl (T 0, 121, .inl (fun _ => 0)))) y = some (.inr (4, [.int 0, .ref q_1, .ref q_10, .ref q_22, .ref q_37, .ref q_55, .ref q_76, .ref q_100, .ref q_127, .ref q_157, .ref q_190, .ref q_226, .ref q_265, .ref q_307, .ref q_352, .ref q_400, .ref q_451, .ref q_505, .null, .int 0, .null, .int 0, .null])) := wd_uk h_543 ne_566
  have ne_568 : q_1 ≠ q_562 := wd_nn h_544 hq_563
  have h_567 : (wd_up σ_561 q_562 (.inl (T 0, 121, .inl (fun _ => 0)))) q_1 = some (.inl (T 0, 121, .inl (fun _ => 0))) := wd_uk h_544 ne_568
  have ne_570 : q_10 ≠ q_562 := wd_nn h_545 hq_563
  have h_569 : (wd_up σ_561 q_562 (.inl (T 0, 121, .inl (fun _ => 0)))) q_10 = some (.inl (T 0, 121, .inl (fun _ => 0))) := wd_uk h_545 ne_570
  have ne_572 : q_22 ≠ q_562 := wd_nn h_546 hq_563
  have h_571 : (wd_up σ_561 q_562 (.inl (T 0, 121, .inl (fun _ => 0)))) q_22 = some (.inl (T 0, 121, .inl (fun _ => 0))) := wd_uk h_546 ne_572
  have ne_574 : q_37 ≠ q_562 := wd_nn h_547 hq_563
  have h_573 : (wd_up σ_561 q_562 (.inl (T 0, 121, .inl (fun _ => 0)))) q_37 = some (.inl (T 0, 121, .inl (fun _ => 0))) := wd_uk h_547 ne_574
  have ne_576 : q_55 ≠ q_562 := wd_nn h_548 hq_563
  have h_575 : (wd_up σ_561 q_562 (.inl (T 0, 121, .inl (fun _ => 0)))) q_55 = some (.inl (T 0, 121, .inl (fun _ => 0))) := wd_uk h_548 ne_576
  have ne_578 : q_76 ≠ q_562 := wd_nn h_549 hq_563
  have h_577 : (wd_up σ_561 q_562 (.inl (T 0, 121, .inl (fun _ => 0)))) q_76 = some (.inl (T 0, 121, .inl (fun _ => 0))) := wd_uk h_549 ne_578
  have ne_580 : q_100 ≠ q_562 := wd_nn h_550 hq_563
  have h_579 : (wd_up σ_561 q_562 (.inl (T 0, 121, .inl (fun _ => 0)))) q_100 = some (.inl (T 1, 121, .inl (fun _ => 0))) := wd_uk h_550 ne_580
  have ne_582 : q_127 ≠ q_562 := wd_nn h_551 hq_563
  have h_581 : (wd_up σ_561 q_562 (.inl (T 0, 121, .inl (fun _ => 0)))) q_127 = some (.inl (T 0, 121, .inl (fun _ => 0))) := wd_uk h_551 ne_582
  have ne_584 : q_157 ≠ q_562 := wd_nn h_552 hq_563
  have h_583 : (wd_up σ_561 q_562 (.inl (T 0, 121, .inl (fun _ => 0)))) q_157 = some (.inl (T 0, 121, .inl (fun _ => 0))) := wd_uk h_552 ne_584
  have ne_586 : q_190 ≠ q_562 := wd_nn h_553 hq_563
  have h_585 : (wd_up σ_561 q_562 (.inl (T 0, 121, .inl (fun _ => 0)))) q_190 = some (.inl (T 0, 121, .inl (fun _ => 0))) := wd_uk h_553 ne_586
  have ne_588 : q_226 ≠ q_562 := wd_nn h_554 hq_563
  have h_587 : (wd_up σ_561 q_562 (.inl (T 0, 121, .inl (fun _ => 0)))) q_226 = some (.inl (T 0, 121, .inl (fun _ => 0))) := wd_uk h_554 ne_588
  have ne_590 : q_265 ≠ q_562 := wd_nn h_555 hq_563
  have h_589 : (wd_up σ_561 q_562 (.inl (T 0, 121, .inl (fun _ => 0)))) q_265 = some (.inl (T 0, 121, .inl (fun _ => 0))) := wd_uk h_555 ne_590
  have ne_592 : q_307 ≠ q_562 := wd_nn h_556 hq_563
  have h_591 : (wd_up σ_561 q_562 (.inl (T 0, 121, .inl (fun _ => 0)))) q_307 = some (.inl (T 0, 484, .inl (fun _ => 0))) := wd_uk h_556 ne_592
  have ne_594 : q_352 ≠ q_562 := wd_nn h_557 hq_563
  have h_593 : (wd_up σ_561 q_562 (.inl (T 0, 121, .inl (fun _ => 0)))) q_352 = some (.inl (T 0, 484, .inl (fun _ => 0))) := wd_uk h_557 ne_594
  have ne_596 : q_400 ≠ q_562 := wd_nn h_558 hq_563
  have h_595 : (wd_up σ_561 q_562 (.inl (T 0, 121, .inl (fun _ => 0)))) q_400 = some (.inl (T 0, 121, .inl (fun _ => 0))) := wd_uk h_558 ne_596
  have ne_598 : q_451 ≠ q_562 := wd_nn h_559 hq_563
  have h_597 : (wd_up σ_561 q_562 (.inl (T 0, 121, .inl (fun _ => 0)))) q_451 = some (.inl (T 1, 31, .inl (fun _ => 0))) := wd_uk h_559 ne_598
  have ne_600 : q_505 ≠ q_562 := wd_nn h_560 hq_563
  have h_599 : (wd_up σ_561 q_562 (.inl (T 0, 121, .inl (fun _ => 0)))) q_505 = some (.inl (T 0, 121, .inl (fun _ => 0))) := wd_uk h_560 ne_600
  have h_564 : (wd_up σ_561 q_562 (.inl (T 0, 121, .inl (fun _ => 0)))) q_562 = some (.inl (T 0, 121, .inl (fun _ => 0))) := wd_us _ _ _
  generalize (wd_up σ_561 q_562 (.inl (T 0, 121, .inl (fun _ => 0)))) = σ_601 at h h_565 h_567 h_569 h_571 h_573 h_575 h_577 h_579 h_581 h_583 h_585 h_587 h_589 h_591 h_593 h_595 h_597 h_599 h_564
  refine wd_putF C h kc_M h_565 18 (by decide) lk_M_62 rfl hname rfl (by rfl) (by rfl) (Nat.le_of_ble_eq_true rfl) d_M_init_147 (fun H locs h => ?_)
  replace h : wd_C D T A s H locs (wd_up σ_601 y (.inr (4, [.int 0, .ref q_1, .ref q_10, .ref q_22, .ref q_37, .ref q_55, .ref q_76, .ref q_100, .ref q_127, .ref q_157, .ref q_190, .ref q_226, .ref q_265, .ref q_307, .ref q_352, .ref q_400, .ref q_451, .ref q_505, .ref q_562, .int 0, .null, .int 0, .null]))) := h
  have h_602 : (wd_up σ_601 y (.inr (4, [.int 0, .ref q_1, .ref q_10, .ref q_22, .ref q_37, .ref q_55, .ref q_76, .ref q_100, .ref q_127, .ref q_157, .ref q_190, .ref q_226, .ref q_265, .ref q_307, .ref q_352, .ref q_400, .ref q_451, .ref q_505, .ref q_562, .int 0, .null, .int 0, .null]))) y = some (.inr (4, [.int 0, .ref q_1, .ref q_10, .ref q_22, .ref q_37, .ref q_55, .ref q_76, .ref q_100, .ref q_127, .ref q_157, .ref q_190, .ref q_226, .ref q_265, .ref q_307, .ref q_352, .ref q_400, .ref q_451, .ref q_505, .ref q_562, .int 0, .null, .int 0, .null])) := wd_us _ _ _
  have h_603 : (wd_up σ_601 y (.inr (4, [.int 0, .ref q_1, .ref q_10, .ref q_22, .ref q_37, .ref q_55, .ref q_76, .ref q_100, .ref q_127, .ref q_157, .ref q_190, .ref q_226, .ref q_265, .ref q_307, .ref q_352, .ref q_400, .ref q_451, .ref q_505, .ref q_562, .int 0, .null, .int 0, .null]))) q_1 = some (.inl (T 0, 121, .inl (fun _ => 0))) := wd_uk h_567 (Ne.symm ne_5)
  have h_604 : (wd_up σ_601 y (.inr (4, [.int 0, .ref q_1, .ref q_10, .ref q_22, .ref q_37, .ref q_55, .ref q_76, .ref q_100, .ref q_127, .ref q_157, .ref q_190, .ref q_226, .ref q_265, .ref q_307, .ref q_352, .ref q_400, .ref q_451, .ref q_505, .ref q_562, .int 0, .null, .int 0, .null]))) q_10 = some (.inl (T 0, 121, .inl (fun _ => 0))) := wd_uk h_569 (Ne.symm ne_14)
  have h_605 : (wd_up σ_601 y (.inr (4, [.int 0, .ref q_1, .ref q_10, .ref q_22, .ref q_37, .ref q_55, .ref q_76, .ref q_100, .ref q_127, .ref q_157, .ref q_190, .ref q_226, .ref q_265, .ref q_307, .ref q_352, .ref q_400, .ref q_451, .ref q_505, .ref q_562, .int 0, .null, .int 0, .null]))) q_22 = some (.inl (T 0, 121, .inl (fun _ => 0))) := wd_uk h_571 (Ne.symm ne_26)
  have h_606 : (wd_up σ_601 y (.inr (4, [.int 0, .ref q_1, .ref q_10, .ref q_22, .ref q_37, .ref q_55, .ref q_76, .ref q_100, .ref q_127, .ref q_157, .ref q_190, .ref q_226, .ref q_265, .ref q_307, .ref q_352, .ref q_400, .ref q_451, .ref q_505, .ref q_562, .int 0, .null, .int 0, .null]))) q_37 = some (.inl (T 0, 121, .inl (fun _ => 0))) := wd_uk h_573 (Ne.symm ne_41)
  have h_607 : (wd_up σ_601 y (.inr (4, [.int 0, .ref q_1, .ref q_10, .ref q_22, .ref q_37, .ref q_55, .ref q_76, .ref q_100, .ref q_127, .ref q_157, .ref q_190, .ref q_226, .ref q_265, .ref q_307, .ref q_352, .ref q_400, .ref q_451, .ref q_505, .ref q_562, .int 0, .null, .int 0, .null]))) q_55 = some (.inl (T 0, 121, .inl (fun _ => 0))) := wd_uk h_575 (Ne.symm ne_59)
  have h_608 : (wd_up σ_601 y (.inr (4, [.int 0, .ref q_1, .ref q_10, .ref q_22, .ref q_37, .ref q_55, .ref q_76, .ref q_100, .ref q_127, .ref q_157, .ref q_190, .ref q_226, .ref q_265, .ref q_307, .ref q_352, .ref q_400, .ref q_451, .ref q_505, .ref q_562, .int 0, .null, .int 0, .null]))) q_76 = some (.inl (T 0, 121, .inl (fun _ => 0))) := wd_uk h_577 (Ne.symm ne_80)
  have h_609 : (wd_up σ_601 y (.inr (4, [.int 0, .ref q_1, .ref q_10, .ref q_22, .ref q_37, .ref q_55, .ref q_76, .ref q_100, .ref q_127, .ref q_157, .ref q_190, .ref q_226, .ref q_265, .ref q_307, .ref q_352, .ref q_400, .ref q_451, .ref q_505, .ref q_562, .int 0, .null, .int 0, .null]))) q_100 = some (.inl (T 1, 121, .inl (fun _ => 0))) := wd_uk h_579 (Ne.symm ne_104)
  have h_610 : (wd_up σ_601 y (.inr (4, [.int 0, .ref q_1, .ref q_10, .ref q_22, .ref q_37, .ref q_55, .ref q_76, .ref q_100, .ref q_127, .ref q_157, .ref q_190, .ref q_226, .ref q_265, .ref q_307, .ref q_352, .ref q_400, .ref q_451, .ref q_505, .ref q_562, .int 0, .null, .int 0, .null]))) q_127 = some (.inl (T 0, 121, .inl (fun _ => 0))) := wd_uk h_581 (Ne.symm ne_131)
  have h_611 : (wd_up σ_601 y (.inr (4, [.int 0, .ref q_1, .ref q_10, .ref q_22, .ref q_37, .ref q_55, .ref q_76, .ref q_100, .ref q_127, .ref q_157, .ref q_190, .ref q_226, .ref q_265, .ref q_307, .ref q_352, .ref q_400, .ref q_451, .ref q_505, .ref q_562, .int 0, .null, .int 0, .null]))) q_157 = some (.inl (T 0, 121, .inl (fun _ => 0))) := wd_uk h_583 (Ne.symm ne_161)
  have h_612 : (wd_up σ_601 y (.inr (4, [.int 0, .ref q_1, .ref q_10, .ref q_22, .ref q_37, .ref q_55, .ref q_76, .ref q_100, .ref q_127, .ref q_157, .ref q_190, .ref q_226, .ref q_265, .ref q_307, .ref q_352, .ref q_400, .ref q_451, .ref q_505, .ref q_562, .int 0, .null, .int 0, .null]))) q_190 = some (.inl (T 0, 121, .inl (fun _ => 0))) := wd_uk h_585 (Ne.symm ne_194)
  have h_613 : (wd_up σ_601 y (.inr (4, [.int 0, .ref q_1, .ref q_10, .ref q_22, .ref q_37, .ref q_55, .ref q_76, .ref q_100, .ref q_127, .ref q_157, .ref q_190, .ref q_226, .ref q_265, .ref q_307, .ref q_352, .ref q_400, .ref q_451, .ref q_505, .ref q_562, .int 0, .null, .int 0, .null]))) q_226 = some (.inl (T 0, 121, .inl (fun _ => 0))) := wd_uk h_587 (Ne.symm ne_230)
  have h_614 : (wd_up σ_601 y (.inr (4, [.int 0, .ref q_1, .ref q_10, .ref q_22, .ref q_37, .ref q_55, .ref q_76, .ref q_100, .ref q_127, .ref q_157, .ref q_190, .ref q_226, .ref q_265, .ref q_307, .ref q_352, .ref q_400, .ref q_451, .ref q_505, .ref q_562, .int 0, .null, .int 0, .null]))) q_265 = some (.inl (T 0, 121, .inl (fun _ => 0))) := wd_uk h_589 (Ne.symm ne_269)
  have h_615 : (wd_up σ_601 y (.inr (4, [.int 0, .ref q_1, .ref q_10, .ref q_22, .ref q_37, .ref q_55, .ref q_76, .ref q_100, .ref q_127, .ref q_157, .ref q_190, .ref q_226, .ref q_265, .ref q_307, .ref q_352, .ref q_400, .ref q_451, .ref q_505, .ref q_562, .int 0, .null, .int 0, .null]))) q_307 = some (.inl (T 0, 484, .inl (fun _ => 0))) := wd_uk h_591 (Ne.symm ne_311)
  have h_616 : (wd_up σ_601 y (.inr (4, [.int 0, .ref q_1, .ref q_10, .ref q_22, .ref q_37, .ref q_55, .ref q_76, .ref q_100, .ref q_127, .ref q_157, .ref q_190, .ref q_226, .ref q_265, .ref q_307, .ref q_352, .ref q_400, .ref q_451, .ref q_505, .ref q_562, .int 0, .null, .int 0, .null]))) q_352 = some (.inl (T 0, 484, .inl (fun _ => 0))) := wd_uk h_593 (Ne.symm ne_356)
  have h_617 : (wd_up σ_601 y (.inr (4, [.int 0, .ref q_1, .ref q_10, .ref q_22, .ref q_37, .ref q_55, .ref q_76, .ref q_100, .ref q_127, .ref q_157, .ref q_190, .ref q_226, .ref q_265, .ref q_307, .ref q_352, .ref q_400, .ref q_451, .ref q_505, .ref q_562, .int 0, .null, .int 0, .null]))) q_400 = some (.inl (T 0, 121, .inl (fun _ => 0))) := wd_uk h_595 (Ne.symm ne_404)
  have h_618 : (wd_up σ_601 y (.inr (4, [.int 0, .ref q_1, .ref q_10, .ref q_22, .ref q_37, .ref q_55, .ref q_76, .ref q_100, .ref q_127, .ref q_157, .ref q_190, .ref q_226, .ref q_265, .ref q_307, .ref q_352, .ref q_400, .ref q_451, .ref q_505, .ref q_562, .int 0, .null, .int 0, .null]))) q_451 = some (.inl (T 1, 31, .inl (fun _ => 0))) := wd_uk h_597 (Ne.symm ne_455)
  have h_619 : (wd_up σ_601 y (.inr (4, [.int 0, .ref q_1, .ref q_10, .ref q_22, .ref q_37, .ref q_55, .ref q_76, .ref q_100, .ref q_127, .ref q_157, .ref q_190, .ref q_226, .ref q_265, .ref q_307, .ref q_352, .ref q_400, .ref q_451, .ref q_505, .ref q_562, .int 0, .null, .int 0, .null]))) q_505 = some (.inl (T 0, 121, .inl (fun _ => 0))) := wd_uk h_599 (Ne.symm ne_509)
  have h_620 : (wd_up σ_601 y (.inr (4, [.int 0, .ref q_1, .ref q_10, .ref q_22, .ref q_37, .ref q_55, .ref q_76, .ref q_100, .ref q_127, .ref q_157, .ref q_190, .ref q_226, .ref q_265, .ref q_307, .ref q_352, .ref q_400, .ref q_451, .ref q_505, .ref q_562, .int 0, .null, .int 0, .null]))) q_562 = some (.inl (T 0, 121, .inl (fun _ => 0))) := wd_uk h_564 (Ne.symm ne_566)
  generalize (wd_up σ_601 y (.inr (4, [.int 0, .ref q_1, .ref q_10, .ref q_22, .ref q_37, .ref q_55, .ref q_76, .ref q_100, .ref q_127, .ref q_157, .ref q_190, .ref q_226, .ref q_265, .ref q_307, .ref q_352, .ref q_400, .ref q_451, .ref q_505, .ref q_562, .int 0, .null, .int 0, .null]))) = σ_621 at h h_602 h_603 h_604 h_605 h_606 h_607 h_608 h_609 h_610 h_611 h_612 h_613 h_614 h_615 h_616 h_617 h_618 h_619 h_620
  refine lv_aload_n hx hb d_M_init_150 rfl (lv_at hl 0 rfl) ?_
  refine lv_sipush (v := 1000) hx hb d_M_init_151 (by decide) ?_
  refine wd_newi C h 0 rfl wa_int 1000 1000 (by decide) (by decide) (by decide) (Nat.le_of_ble_eq_true rfl) (Nat.le_of_ble_eq_true rfl) d_M_init_154 (fun q_622 H hq_623 h => ?_)
  have ne_626 : y ≠ q_622 := wd_nn h_602 hq_623
  have h_625 : (wd_up σ_621 q_622 (.inl (T 0, 1000, .inl (fun _ => 0)))) y = some (.inr (4, [.int 0, .ref q_1, .ref q_10, .ref q_22, .ref q_37, .ref q_55, .ref q_76, .ref q_100, .ref q_127, .ref q_157, .ref q_190, .ref q_226, .ref q_265, .ref q_307, .ref q_352, .ref q_400, .ref q_451, .ref q_505, .ref q_562, .int 0, .null, .int 0, .null])) := wd_uk h_602 ne_626
  have ne_628 : q_1 ≠ q_622 := wd_nn h_603 hq_623
  have h_627 : (wd_up σ_621 q_622 (.inl (T 0, 1000, .inl (fun _ => 0)))) q_1 = some (.inl (T 0, 121, .inl (fun _ => 0))) := wd_uk h_603 ne_628
  have ne_630 : q_10 ≠ q_622 := wd_nn h_604 hq_623
  have h_629 : (wd_up σ_621 q_622 (.inl (T 0, 1000, .inl (fun _ => 0)))) q_10 = some (.inl (T 0, 121, .inl (fun _ => 0))) := wd_uk h_604 ne_630
  have ne_632 : q_22 ≠ q_622 := wd_nn h_605 hq_623
  have h_631 : (wd_up σ_621 q_622 (.inl (T 0, 1000, .inl (fun _ => 0)))) q_22 = some (.inl (T 0, 121, .inl (fun _ => 0))) := wd_uk h_605 ne_632
  have ne_634 : q_37 ≠ q_622 := wd_nn h_606 hq_623
  have h_633 : (wd_up σ_621 q_622 (.inl (T 0, 1000, .inl (fun _ => 0)))) q_37 = some (.inl (T 0, 121, .inl (fun _ => 0))) := wd_uk h_606 ne_634
  have ne_636 : q_55 ≠ q_622 := wd_nn h_607 hq_623
  have h_635 : (wd_up σ_621 q_622 (.inl (T 0, 1000, .inl (fun _ => 0)))) q_55 = some (.inl (T 0, 121, .inl (fun _ => 0))) := wd_uk h_607 ne_636
  have ne_638 : q_76 ≠ q_622 := wd_nn h_608 hq_623
  have h_637 : (wd_up σ_621 q_622 (.inl (T 0, 1000, .inl (fun _ => 0)))) q_76 = some (.inl (T 0, 121, .inl (fun _ => 0))) := wd_uk h_608 ne_638
  have ne_640 : q_100 ≠ q_622 := wd_nn h_609 hq_623
  have h_639 : (wd_up σ_621 q_622 (.inl (T 0, 1000, .inl (fun _ => 0)))) q_100 = some (.inl (T 1, 121, .inl (fun _ => 0))) := wd_uk h_609 ne_640
  have ne_642 : q_127 ≠ q_622 := wd_nn h_610 hq_623
  have h_641 : (wd_up σ_621 q_622 (.inl (T 0, 1000, .inl (fun _ => 0)))) q_127 = some (.inl (T 0, 121, .inl (fun _ => 0))) := wd_uk h_610 ne_642
  have ne_644 : q_157 ≠ q_622 := wd_nn h_611 hq_623
  have h_643 : (wd_up σ_621 q_622 (.inl (T 0, 1000, .inl (fun _ => 0)))) q_157 = some (.inl (T 0, 121, .inl (fun _ => 0))) := wd_uk h_611 ne_644
  have ne_646 : q_190 ≠ q_622 := wd_nn h_612 hq_623
  have h_645 : (wd_up σ_621 q_622 (.inl (T 0, 1000, .inl (fun _ => 0)))) q_190 = some (.inl (T 0, 121, .inl (fun _ => 0))) := wd_uk h_612 ne_646
  have ne_648 : q_226 ≠ q_622 := wd_nn h_613 hq_623
  have h_647 : (wd_up σ_621 q_622 (.inl (T 0, 1000, .inl (fun _ => 0)))) q_226 = some (.inl (T 0, 121, .inl (fun _ => 0))) := wd_uk h_613 ne_648
  have ne_650 : q_265 ≠ q_622 := wd_nn h_614 hq_623
  have h_649 : (wd_up σ_621 q_622 (.inl (T 0, 1000, .inl (fun _ => 0)))) q_265 = some (.inl (T 0, 121, .inl (fun _ => 0))) := wd_uk h_614 ne_650
  have ne_652 : q_307 ≠ q_622 := wd_nn h_615 hq_623
  have h_651 : (wd_up σ_621 q_622 (.inl (T 0, 1000, .inl (fun _ => 0)))) q_307 = some (.inl (T 0, 484, .inl (fun _ => 0))) := wd_uk h_615 ne_652
  have ne_654 : q_352 ≠ q_622 := wd_nn h_616 hq_623
  have h_653 : (wd_up σ_621 q_622 (.inl (T 0, 1000, .inl (fun _ => 0)))) q_352 = some (.inl (T 0, 484, .inl (fun _ => 0))) := wd_uk h_616 ne_654
  have ne_656 : q_400 ≠ q_622 := wd_nn h_617 hq_623
  have h_655 : (wd_up σ_621 q_622 (.inl (T 0, 1000, .inl (fun _ => 0)))) q_400 = some (.inl (T 0, 121, .inl (fun _ => 0))) := wd_uk h_617 ne_656
  have ne_658 : q_451 ≠ q_622 := wd_nn h_618 hq_623
  have h_657 : (wd_up σ_621 q_622 (.inl (T 0, 1000, .inl (fun _ => 0)))) q_451 = some (.inl (T 1, 31, .inl (fun _ => 0))) := wd_uk h_618 ne_658
  have ne_660 : q_505 ≠ q_622 := wd_nn h_619 hq_623
  have h_659 : (wd_up σ_621 q_622 (.inl (T 0, 1000, .inl (fun _ => 0)))) q_505 = some (.inl (T 0, 121, .inl (fun _ => 0))) := wd_uk h_619 ne_660
  have ne_662 : q_562 ≠ q_622 := wd_nn h_620 hq_623
  have h_661 : (wd_up σ_621 q_622 (.inl (T 0, 1000, .inl (fun _ => 0)))) q_562 = some (.inl (T 0, 121, .inl (fun _ => 0))) := wd_uk h_620 ne_662
  have h_624 : (wd_up σ_621 q_622 (.inl (T 0, 1000, .inl (fun _ => 0)))) q_622 = some (.inl (T 0, 1000, .inl (fun _ => 0))) := wd_us _ _ _
  generalize (wd_up σ_621 q_622 (.inl (T 0, 1000, .inl (fun _ => 0)))) = σ_663 at h h_625 h_627 h_629 h_631 h_633 h_635 h_637 h_639 h_641 h_643 h_645 h_647 h_649 h_651 h_653 h_655 h_657 h_659 h_661 h_624
  refine wd_putF C h kc_M h_625 20 (by decide) lk_M_65 rfl hname rfl (by rfl) (by rfl) (Nat.le_of_ble_eq_true rfl) d_M_init_156 (fun H locs h => ?_)
  replace h : wd_C D T A s H locs (wd_up σ_663 y (.inr (4, [.int 0, .ref q_1, .ref q_10, .ref q_22, .ref q_37, .ref q_55, .ref q_76, .ref q_100, .ref q_127, .ref q_157, .ref q_190, .ref q_226, .ref q_265, .ref q_307, .ref q_352, .ref q_400, .ref q_451, .ref q_505, .ref q_562, .int 0, .ref q_622, .int 0, .null]))) := h
  have h_664 : (wd_up σ_663 y (.inr (4, [.int 0, .ref q_1, .ref q_10, .ref q_22, .ref q_37, .ref q_55, .ref q_76, .ref q_100, .ref q_127, .ref q_157, .ref q_190, .ref q_226, .ref q_265, .ref q_307, .ref q_352, .ref q_400, .ref q_451, .ref q_505, .ref q_562, .int 0, .ref q_622, .int 0, .null]))) y = some (.inr (4, [.int 0, .ref q_1, .ref q_10, .ref q_22, .ref q_37, .ref q_55, .ref q_76, .ref q_100, .ref q_127, .ref q_157, .ref q_190, .ref q_226, .ref q_265, .ref q_307, .ref q_352, .ref q_400, .ref q_451, .ref q_505, .ref q_562, .int 0, .ref q_622, .int 0, .null])) := wd_us _ _ _
  have h_665 : (wd_up σ_663 y (.inr (4, [.int 0, .ref q_1, .ref q_10, .ref q_22, .ref q_37, .ref q_55, .ref q_76, .ref q_100, .ref q_127, .ref q_157, .ref q_190, .ref q_226, .ref q_265, .ref q_307, .ref q_352, .ref q_400, .ref q_451, .ref q_505, .ref q_562, .int 0, .ref q_622, .int 0, .null]))) q_1 = some (.inl (T 0, 121, .inl (fun _ => 0))) := wd_uk h_627 (Ne.symm ne_5)
  have h_666 : (wd_up σ_663 y (.inr (4, [.int 0, .ref q_1, .ref q_10, .ref q_22, .ref q_37, .ref q_55, .ref q_76, .ref q_100, .ref q_127, .ref q_157, .ref q_190, .ref q_226, .ref q_265, .ref q_307, .ref q_352, .ref q_400, .ref q_451, .ref q_505, .ref q_562, .int 0, .ref q_622, .int 0, .null]))) q_10 = some (.inl (T 0, 121, .inl (fun _ => 0))) := wd_uk h_629 (Ne.symm ne_14)
  have h_667 : (wd_up σ_663 y (.inr (4, [.int 0, .ref q_1, .ref q_10, .ref q_22, .ref q_37, .ref q_55, .ref q_76, .ref q_100, .ref q_127, .ref q_157, .ref q_190, .ref q_226, .ref q_265, .ref q_307, .ref q_352, .ref q_400, .ref q_451, .ref q_505, .ref q_562, .int 0, .ref q_622, .int 0, .null]))) q_22 = some (.inl (T 0, 121, .inl (fun _ => 0))) := wd_uk h_631 (Ne.symm ne_26)
  have h_668 : (wd_up σ_663 y (.inr (4, [.int 0, .ref q_1, .ref q_10, .ref q_22, .ref q_37, .ref q_55, .ref q_76, .ref q_100, .ref q_127, .ref q_157, .ref q_190, .ref q_226, .ref q_265, .ref q_307, .ref q_352, .ref q_400, .ref q_451, .ref q_505, .ref q_562, .int 0, .ref q_622, .int 0, .null]))) q_37 = some (.inl (T 0, 121, .inl (fun _ => 0))) := wd_uk h_633 (Ne.symm ne_41)
  have h_669 : (wd_up σ_663 y (.inr (4, [.int 0, .ref q_1, .ref q_10, .ref q_22, .ref q_37, .ref q_55, .ref q_76, .ref q_100, .ref q_127, .ref q_157, .ref q_190, .ref q_226, .ref q_265, .ref q_307, .ref q_352, .ref q_400, .ref q_451, .ref q_505, .ref q_562, .int 0, .ref q_622, .int 0, .null]))) q_55 = some (.inl (T 0, 121, .inl (fun _ => 0))) := wd_uk h_635 (Ne.symm ne_59)
  have h_670 : (wd_up σ_663 y (.inr (4, [.int 0, .ref q_1, .ref q_10, .ref q_22, .ref q_37, .ref q_55, .ref q_76, .ref q_100, .ref q_127, .ref q_157, .ref q_190, .ref q_226, .ref q_265, .ref q_307, .ref q_352, .ref q_400, .ref q_451, .ref q_505, .ref q_562, .int 0, .ref q_622, .int 0, .null]))) q_76 = some (.inl (T 0, 121, .inl (fun _ => 0))) := wd_uk h_637 (Ne.symm ne_80)
  have h_671 : (wd_up σ_663 y (.inr (4, [.int 0, .ref q_1, .ref q_10, .ref q_22, .ref q_37, .ref q_55, .ref q_76, .ref q_100, .ref q_127, .ref q_157, .ref q_190, .ref q_226, .ref q_265, .ref q_307, .ref q_352, .ref q_400, .ref q_451, .ref q_505, .ref q_562, .int 0, .ref q_622, .int 0, .null]))) q_100 = some (.inl (T 1, 121, .inl (fun _ => 0))) := wd_uk h_639 (Ne.symm ne_104)
  have h_672 : (wd_up σ_663 y (.inr (4, [.int 0, .ref q_1, .ref q_10, .ref q_22, .ref q_37, .ref q_55, .ref q_76, .ref q_100, .ref q_127, .ref q_157, .ref q_190, .ref q_226, .ref q_265, .ref q_307, .ref q_352, .ref q_400, .ref q_451, .ref q_505, .ref q_562, .int 0, .ref q_622, .int 0, .null]))) q_127 = some (.inl (T 0, 121, .inl (fun _ => 0))) := wd_uk h_641 (Ne.symm ne_131)
  have h_673 : (wd_up σ_663 y (.inr (4, [.int 0, .ref q_1, .ref q_10, .ref q_22, .ref q_37, .ref q_55, .ref q_76, .ref q_100, .ref q_127, .ref q_157, .ref q_190, .ref q_226, .ref q_265, .ref q_307, .ref q_352, .ref q_400, .ref q_451, .ref q_505, .ref q_562, .int 0, .ref q_622, .int 0, .null]))) q_157 = some (.inl (T 0, 121, .inl (fun _ => 0))) := wd_uk h_643 (Ne.symm ne_161)
  have h_674 : (wd_up σ_663 y (.inr (4, [.int 0, .ref q_1, .ref q_10, .ref q_22, .ref q_37, .ref q_55, .ref q_76, .ref q_100, .ref q_127, .ref q_157, .ref q_190, .ref q_226, .ref q_265, .ref q_307, .ref q_352, .ref q_400, .ref q_451, .ref q_505, .ref q_562, .int 0, .ref q_622, .int 0, .null]))) q_190 = some (.inl (T 0, 121, .inl (fun _ => 0))) := wd_uk h_645 (Ne.symm ne_194)
  have h_675 : (wd_up σ_663 y (.inr (4, [.int 0, .ref q_1, .ref q_10, .ref q_22, .ref q_37, .ref q_55, .ref q_76, .ref q_100, .ref q_127, .ref q_157, .ref q_190, .ref q_226, .ref q_265, .ref q_307, .ref q_352, .ref q_400, .ref q_451, .ref q_505, .ref q_562, .int 0, .ref q_622, .int 0, .null]))) q_226 = some (.inl (T 0, 121, .inl (fun _ => 0))) := wd_uk h_647 (Ne.symm ne_230)
  have h_676 : (wd_up σ_663 y (.inr (4, [.int 0, .ref q_1, .ref q_10, .ref q_22, .ref q_37, .ref q_55, .ref q_76, .ref q_100, .ref q_127, .ref q_157, .ref q_190, .ref q_226, .ref q_265, .ref q_307, .ref q_352, .ref q_400, .ref q_451, .ref q_505, .ref q_562, .int 0, .ref q_622, .int 0, .null]))) q_265 = some (.inl (T 0, 121, .inl (fun _ => 0))) := wd_uk h_649 (Ne.symm ne_269)
  have h_677 : (wd_up σ_663 y (.inr (4, [.int 0, .ref q_1, .ref q_10, .ref q_22, .ref q_37, .ref q_55, .ref q_76, .ref q_100, .ref q_127, .ref q_157, .ref q_190, .ref q_226, .ref q_265, .ref q_307, .ref q_352, .ref q_400, .ref q_451, .ref q_505, .ref q_562, .int 0, .ref q_622, .int 0, .null]))) q_307 = some (.inl (T 0, 484, .inl (fun _ => 0))) := wd_uk h_651 (Ne.symm ne_311)
  have h_678 : (wd_up σ_663 y (.inr (4, [.int 0, .ref q_1, .ref q_10, .ref q_22, .ref q_37, .ref q_55, .ref q_76, .ref q_100, .ref q_127, .ref q_157, .ref q_190, .ref q_226, .ref q_265, .ref q_307, .ref q_352, .ref q_400, .ref q_451, .ref q_505, .ref q_562, .int 0, .ref q_622, .int 0, .null]))) q_352 = some (.inl (T 0, 484, .inl (fun _ => 0))) := wd_uk h_653 (Ne.symm ne_356)
  have h_679 : (wd_up σ_663 y (.inr (4, [.int 0, .ref q_1, .ref q_10, .ref q_22, .ref q_37, .ref q_55, .ref q_76, .ref q_100, .ref q_127, .ref q_157, .ref q_190, .ref q_226, .ref q_265, .ref q_307, .ref q_352, .ref q_400, .ref q_451, .ref q_505, .ref q_562, .int 0, .ref q_622, .int 0, .null]))) q_400 = some (.inl (T 0, 121, .inl (fun _ => 0))) := wd_uk h_655 (Ne.symm ne_404)
  have h_680 : (wd_up σ_663 y (.inr (4, [.int 0, .ref q_1, .ref q_10, .ref q_22, .ref q_37, .ref q_55, .ref q_76, .ref q_100, .ref q_127, .ref q_157, .ref q_190, .ref q_226, .ref q_265, .ref q_307, .ref q_352, .ref q_400, .ref q_451, .ref q_505, .ref q_562, .int 0, .ref q_622, .int 0, .null]))) q_451 = some (.inl (T 1, 31, .inl (fun _ => 0))) := wd_uk h_657 (Ne.symm ne_455)
  have h_681 : (wd_up σ_663 y (.inr (4, [.int 0, .ref q_1, .ref q_10, .ref q_22, .ref q_37, .ref q_55, .ref q_76, .ref q_100, .ref q_127, .ref q_157, .ref q_190, .ref q_226, .ref q_265, .ref q_307, .ref q_352, .ref q_400, .ref q_451, .ref q_505, .ref q_562, .int 0, .ref q_622, .int 0, .null]))) q_505 = some (.inl (T 0, 121, .inl (fun _ => 0))) := wd_uk h_659 (Ne.symm ne_509)
  have h_682 : (wd_up σ_663 y (.inr (4, [.int 0, .ref q_1, .ref q_10, .ref q_22, .ref q_37, .ref q_55, .ref q_76, .ref q_100, .ref q_127, .ref q_157, .ref q_190, .ref q_226, .ref q_265, .ref q_307, .ref q_352, .ref q_400, .ref q_451, .ref q_505, .ref q_562, .int 0, .ref q_622, .int 0, .null]))) q_562 = some (.inl (T 0, 121, .inl (fun _ => 0))) := wd_uk h_661 (Ne.symm ne_566)
  have h_683 : (wd_up σ_663 y (.inr (4, [.int 0, .ref q_1, .ref q_10, .ref q_22, .ref q_37, .ref q_55, .ref q_76, .ref q_100, .ref q_127, .ref q_157, .ref q_190, .ref q_226, .ref q_265, .ref q_307, .ref q_352, .ref q_400, .ref q_451, .ref q_505, .ref q_562, .int 0, .ref q_622, .int 0, .null]))) q_622 = some (.inl (T 0, 1000, .inl (fun _ => 0))) := wd_uk h_624 (Ne.symm ne_626)
  generalize (wd_up σ_663 y (.inr (4, [.int 0, .ref q_1, .ref q_10, .ref q_22, .ref q_37, .ref q_55, .ref q_76, .ref q_100, .ref q_127, .ref q_157, .ref q_190, .ref q_226, .ref q_265, .ref q_307, .ref q_352, .ref q_400, .ref q_451, .ref q_505, .ref q_562, .int 0, .ref q_622, .int 0, .null]))) = σ_684 at h h_664 h_665 h_666 h_667 h_668 h_669 h_670 h_671 h_672 h_673 h_674 h_675 h_676 h_677 h_678 h_679 h_680 h_681 h_682 h_683
  refine lv_aload_n hx hb d_M_init_159 rfl (lv_at hl 0 rfl) ?_
  refine lv_bipush (v := 40) hx hb d_M_init_160 (by decide) ?_
  refine wd_newi C h 0 rfl wa_int 40 40 (by decide) (by decide) (by decide) (Nat.le_of_ble_eq_true rfl) (Nat.le_of_ble_eq_true rfl) d_M_init_162 (fun q_685 H hq_686 h => ?_)
  have ne_689 : y ≠ q_685 := wd_nn h_664 hq_686
  have h_688 : (wd_up σ_684 q_685 (.inl (T 0, 40, .inl (fun _ => 0)))) y = some (.inr (4, [.int 0, .ref q_1, .ref q_10, .ref q_22, .ref q_37, .ref q_55, .ref q_76, .ref q_100, .ref q_127, .ref q_157, .ref q_190, .ref q_226, .ref q_265, .ref q_307, .ref q_352, .ref q_400, .ref q_451, .ref q_505, .ref q_562, .int 0, .ref q_622, .int 0, .null])) := wd_uk h_664 ne_689
  have ne_691 : q_1 ≠ q_685 := wd_nn h_665 hq_686
  have h_690 : (wd_up σ_684 q_685 (.inl (T 0, 40, .inl (fun _ => 0)))) q_1 = some (.inl (T 0, 121, .inl (fun _ => 0))) := wd_uk h_665 ne_691
  have ne_693 : q_10 ≠ q_685 := wd_nn h_666 hq_686
  have h_692 : (wd_up σ_684 q_685 (.inl (T 0, 40, .inl (fun _ => 0)))) q_10 = some (.inl (T 0, 121, .inl (fun _ => 0))) := wd_uk h_666 ne_693
  have ne_695 : q_22 ≠ q_685 := wd_nn h_667 hq_686
  have h_694 : (wd_up σ_684 q_685 (.inl (T 0, 40, .inl (fun _ => 0)))) q_22 = some (.inl (T 0, 121, .inl (fun _ => 0))) := wd_uk h_667 ne_695
  have ne_697 : q_37 ≠ q_685 := wd_nn h_668 hq_686
  have h_696 : (wd_up σ_684 q_685 (.inl (T 0, 40, .inl (fun _ => 0)))) q_37 = some (.inl (T 0, 121, .inl (fun _ => 0))) := wd_uk h_668 ne_697
  have ne_699 : q_55 ≠ q_685 := wd_nn h_669 hq_686
  have h_698 : (wd_up σ_684 q_685 (.inl (T 0, 40, .inl (fun _ => 0)))) q_55 = some (.inl (T 0, 121, .inl (fun _ => 0))) := wd_uk h_669 ne_699
  have ne_701 : q_76 ≠ q_685 := wd_nn h_670 hq_686
  have h_700 : (wd_up σ_684 q_685 (.inl (T 0, 40, .inl (fun _ => 0)))) q_76 = some (.inl (T 0, 121, .inl (fun _ => 0))) := wd_uk h_670 ne_701
  have ne_703 : q_100 ≠ q_685 := wd_nn h_671 hq_686
  have h_702 : (wd_up σ_684 q_685 (.inl (T 0, 40, .inl (fun _ => 0)))) q_100 = some (.inl (T 1, 121, .inl (fun _ => 0))) := wd_uk h_671 ne_703
  have ne_705 : q_127 ≠ q_685 := wd_nn h_672 hq_686
  have h_704 : (wd_up σ_684 q_685 (.inl (T 0, 40, .inl (fun _ => 0)))) q_127 = some (.inl (T 0, 121, .inl (fun _ => 0))) := wd_uk h_672 ne_705
  have ne_707 : q_157 ≠ q_685 := wd_nn h_673 hq_686
  have h_706 : (wd_up σ_684 q_685 (.inl (T 0, 40, .inl (fun _ => 0)))) q_157 = some (.inl (T 0, 121, .inl (fun _ => 0))) := wd_uk h_673 ne_707
  have ne_709 : q_190 ≠ q_685 := wd_nn h_674 hq_686
  have h_708 : (wd_up σ_684 q_685 (.inl (T 0, 40, .inl (fun _ => 0)))) q_190 = some (.inl (T 0, 121, .inl (fun _ => 0))) := wd_uk h_674 ne_709
  have ne_711 : q_226 ≠ q_685 := wd_nn h_675 hq_686
  have h_710 : (wd_up σ_684 q_685 (.inl (T 0, 40, .inl (fun _ => 0)))) q_226 = some (.inl (T 0, 121, .inl (fun _ => 0))) := wd_uk h_675 ne_711
  have ne_713 : q_265 ≠ q_685 := wd_nn h_676 hq_686
  have h_712 : (wd_up σ_684 q_685 (.inl (T 0, 40, .inl (fun _ => 0)))) q_265 = some (.inl (T 0, 121, .inl (fun _ => 0))) := wd_uk h_676 ne_713
  have ne_715 : q_307 ≠ q_685 := wd_nn h_677 hq_686
  have h_714 : (wd_up σ_684 q_685 (.inl (T 0, 40, .inl (fun _ => 0)))) q_307 = some (.inl (T 0, 484, .inl (fun _ => 0))) := wd_uk h_677 ne_715
  have ne_717 : q_352 ≠ q_685 := wd_nn h_678 hq_686
  have h_716 : (wd_up σ_684 q_685 (.inl (T 0, 40, .inl (fun _ => 0)))) q_352 = some (.inl (T 0, 484, .inl (fun _ => 0))) := wd_uk h_678 ne_717
  have ne_719 : q_400 ≠ q_685 := wd_nn h_679 hq_686
  have h_718 : (wd_up σ_684 q_685 (.inl (T 0, 40, .inl (fun _ => 0)))) q_400 = some (.inl (T 0, 121, .inl (fun _ => 0))) := wd_uk h_679 ne_719
  have ne_721 : q_451 ≠ q_685 := wd_nn h_680 hq_686
  have h_720 : (wd_up σ_684 q_685 (.inl (T 0, 40, .inl (fun _ => 0)))) q_451 = some (.inl (T 1, 31, .inl (fun _ => 0))) := wd_uk h_680 ne_721
  have ne_723 : q_505 ≠ q_685 := wd_nn h_681 hq_686
  have h_722 : (wd_up σ_684 q_685 (.inl (T 0, 40, .inl (fun _ => 0)))) q_505 = some (.inl (T 0, 121, .inl (fun _ => 0))) := wd_uk h_681 ne_723
  have ne_725 : q_562 ≠ q_685 := wd_nn h_682 hq_686
  have h_724 : (wd_up σ_684 q_685 (.inl (T 0, 40, .inl (fun _ => 0)))) q_562 = some (.inl (T 0, 121, .inl (fun _ => 0))) := wd_uk h_682 ne_725
  have ne_727 : q_622 ≠ q_685 := wd_nn h_683 hq_686
  have h_726 : (wd_up σ_684 q_685 (.inl (T 0, 40, .inl (fun _ => 0)))) q_622 = some (.inl (T 0, 1000, .inl (fun _ => 0))) := wd_uk h_683 ne_727
  have h_687 : (wd_up σ_684 q_685 (.inl (T 0, 40, .inl (fun _ => 0)))) q_685 = some (.inl (T 0, 40, .inl (fun _ => 0))) := wd_us _ _ _
  generalize (wd_up σ_684 q_685 (.inl (T 0, 40, .inl (fun _ => 0)))) = σ_728 at h h_688 h_690 h_692 h_694 h_696 h_698 h_700 h_702 h_704 h_706 h_708 h_710 h_712 h_714 h_716 h_718 h_720 h_722 h_724 h_726 h_687
  refine wd_putF C h kc_M h_688 22 (by decide) lk_M_68 rfl hname rfl (by rfl) (by rfl) (Nat.le_of_ble_eq_true rfl) d_M_init_164 (fun H locs h => ?_)
  replace h : wd_C D T A s H locs (wd_up σ_728 y (.inr (4, [.int 0, .ref q_1, .ref q_10, .ref q_22, .ref q_37, .ref q_55, .ref q_76, .ref q_100, .ref q_127, .ref q_157, .ref q_190, .ref q_226, .ref q_265, .ref q_307, .ref q_352, .ref q_400, .ref q_451, .ref q_505, .ref q_562, .int 0, .ref q_622, .int 0, .ref q_685]))) := h
  have h_729 : (wd_up σ_728 y (.inr (4, [.int 0, .ref q_1, .ref q_10, .ref q_22, .ref q_37, .ref q_55, .ref q_76, .ref q_100, .ref q_127, .ref q_157, .ref q_190, .ref q_226, .ref q_265, .ref q_307, .ref q_352, .ref q_400, .ref q_451, .ref q_505, .ref q_562, .int 0, .ref q_622, .int 0, .ref q_685]))) y = some (.inr (4, [.int 0, .ref q_1, .ref q_10, .ref q_22, .ref q_37, .ref q_55, .ref q_76, .ref q_100, .ref q_127, .ref q_157, .ref q_190, .ref q_226, .ref q_265, .ref q_307, .ref q_352, .ref q_400, .ref q_451, .ref q_505, .ref q_562, .int 0, .ref q_622, .int 0, .ref q_685])) := wd_us _ _ _
  have h_730 : (wd_up σ_728 y (.inr (4, [.int 0, .ref q_1, .ref q_10, .ref q_22, .ref q_37, .ref q_55, .ref q_76, .ref q_100, .ref q_127, .ref q_157, .ref q_190, .ref q_226, .ref q_265, .ref q_307, .ref q_352, .ref q_400, .ref q_451, .ref q_505, .ref q_562, .int 0, .ref q_622, .int 0, .ref q_685]))) q_1 = some (.inl (T 0, 121, .inl (fun _ => 0))) := wd_uk h_690 (Ne.symm ne_5)
  have h_731 : (wd_up σ_728 y (.inr (4, [.int 0, .ref q_1, .ref q_10, .ref q_22, .ref q_37, .ref q_55, .ref q_76, .ref q_100, .ref q_127, .ref q_157, .ref q_190, .ref q_226, .ref q_265, .ref q_307, .ref q_352, .ref q_400, .ref q_451, .ref q_505, .ref q_562, .int 0, .ref q_622, .int 0, .ref q_685]))) q_10 = some (.inl (T 0, 121, .inl (fun _ => 0))) := wd_uk h_692 (Ne.symm ne_14)
  have h_732 : (wd_up σ_728 y (.inr (4, [.int 0, .ref q_1, .ref q_10, .ref q_22, .ref q_37, .ref q_55, .ref q_76, .ref q_100, .ref q_127, .ref q_157, .ref q_190, .ref q_226, .ref q_265, .ref q_307, .ref q_352, .ref q_400, .ref q_451, .ref q_505, .ref q_562, .int 0, .ref q_622, .int 0, .ref q_685]))) q_22 = some (.inl (T 0, 121, .inl (fun _ => 0))) := wd_uk h_694 (Ne.symm ne_26)
  have h_733 : (wd_up σ_728 y (.inr (4, [.int 0, .ref q_1, .ref q_10, .ref q_22, .ref q_37, .ref q_55, .ref q_76, .ref q_100, .ref q_127, .ref q_157, .ref q_190, .ref q_226, .ref q_265, .ref q_307, .ref q_352, .ref q_400, .ref q_451, .ref q_505, .ref q_562, .int 0, .ref q_622, .int 0, .ref q_685]))) q_37 = some (.inl (T 0, 121, .inl (fun _ => 0))) := wd_uk h_696 (Ne.symm ne_41)
  have h_734 : (wd_up σ_728 y (.inr (4, [.int 0, .ref q_1, .ref q_10, .ref q_22, .ref q_37, .ref q_55, .ref q_76, .ref q_100, .ref q_127, .ref q_157, .ref q_190, .ref q_226, .ref q_265, .ref q_307, .ref q_352, .ref q_400, .ref q_451, .ref q_505, .ref q_562, .int 0, .ref q_622, .int 0, .ref q_685]))) q_55 = some (.inl (T 0, 121, .inl (fun _ => 0))) := wd_uk h_698 (Ne.symm ne_59)
  have h_735 : (wd_up σ_728 y (.inr (4, [.int 0, .ref q_1, .ref q_10, .ref q_22, .ref q_37, .ref q_55, .ref q_76, .ref q_100, .ref q_127, .ref q_157, .ref q_190, .ref q_226, .ref q_265, .ref q_307, .ref q_352, .ref q_400, .ref q_451, .ref q_505, .ref q_562, .int 0, .ref q_622, .int 0, .ref q_685]))) q_76 = some (.inl (T 0, 121, .inl (fun _ => 0))) := wd_uk h_700 (Ne.symm ne_80)
  have h_736 : (wd_up σ_728 y (.inr (4, [.int 0, .ref q_1, .ref q_10, .ref q_22, .ref q_37, .ref q_55, .ref q_76, .ref q_100, .ref q_127, .ref q_157, .ref q_190, .ref q_226, .ref q_265, .ref q_307, .ref q_352, .ref q_400, .ref q_451, .ref q_505, .ref q_562, .int 0, .ref q_622, .int 0, .ref q_685]))) q_100 = some (.inl (T 1, 121, .inl (fun _ => 0))) := wd_uk h_702 (Ne.symm ne_104)
  have h_737 : (wd_up σ_728 y (.inr (4, [.int 0, .ref q_1, .ref q_10, .ref q_22, .ref q_37, .ref q_55, .ref q_76, .ref q_100, .ref q_127, .ref q_157, .ref q_190, .ref q_226, .ref q_265, .ref q_307, .ref q_352, .ref q_400, .ref q_451, .ref q_505, .ref q_562, .int 0, .ref q_622, .int 0, .ref q_685]))) q_127 = some (.inl (T 0, 121, .inl (fun _ => 0))) := wd_uk h_704 (Ne.symm ne_131)
  have h_738 : (wd_up σ_728 y (.inr (4, [.int 0, .ref q_1, .ref q_10, .ref q_22, .ref q_37, .ref q_55, .ref q_76, .ref q_100, .ref q_127, .ref q_157, .ref q_190, .ref q_226, .ref q_265, .ref q_307, .ref q_352, .ref q_400, .ref q_451, .ref q_505, .ref q_562, .int 0, .ref q_622, .int 0, .ref q_685]))) q_157 = some (.inl (T 0, 121, .inl (fun _ => 0))) := wd_uk h_706 (Ne.symm ne_161)
  have h_739 : (wd_up σ_728 y (.inr (4, [.int 0, .ref q_1, .ref q_10, .ref q_22, .ref q_37, .ref q_55, .ref q_76, .ref q_100, .ref q_127, .ref q_157, .ref q_190, .ref q_226, .ref q_265, .ref q_307, .ref q_352, .ref q_400, .ref q_451, .ref q_505, .ref q_562, .int 0, .ref q_622, .int 0, .ref q_685]))) q_190 = some (.inl (T 0, 121, .inl (fun _ => 0))) := wd_uk h_708 (Ne.symm ne_194)
  have h_740 : (wd_up σ_728 y (.inr (4, [.int 0, .ref q_1, .ref q_10, .ref q_22, .ref q_37, .ref q_55, .ref q_76, .ref q_100, .ref q_127, .ref q_157, .ref q_190, .ref q_226, .ref q_265, .ref q_307, .ref q_352, .ref q_400, .ref q_451, .ref q_505, .ref q_562, .int 0, .ref q_622, .int 0, .ref q_685]))) q_226 = some (.inl (T 0, 121, .inl (fun _ => 0))) := wd_uk h_710 (Ne.symm ne_230)
  have h_741 : (wd_up σ_728 y (.inr (4, [.int 0, .ref q_1, .ref q_10, .ref q_22, .ref q_37, .ref q_55, .ref q_76, .ref q_100, .ref q_127, .ref q_157, .ref q_190, .ref q_226, .ref q_265, .ref q_307, .ref q_352, .ref q_400, .ref q_451, .ref q_505, .ref q_562, .int 0, .ref q_622, .int 0, .ref q_685]))) q_265 = some (.inl (T 0, 121, .inl (fun _ => 0))) := wd_uk h_712 (Ne.symm ne_269)
  have h_742 : (wd_up σ_728 y (.inr (4, [.int 0, .ref q_1, .ref q_10, .ref q_22, .ref q_37, .ref q_55, .ref q_76, .ref q_100, .ref q_127, .ref q_157, .ref q_190, .ref q_226, .ref q_265, .ref q_307, .ref q_352, .ref q_400, .ref q_451, .ref q_505, .ref q_562, .int 0, .ref q_622, .int 0, .ref q_685]))) q_307 = some (.inl (T 0, 484, .inl (fun _ => 0))) := wd_uk h_714 (Ne.symm ne_311)
  have h_743 : (wd_up σ_728 y (.inr (4, [.int 0, .ref q_1, .ref q_10, .ref q_22, .ref q_37, .ref q_55, .ref q_76, .ref q_100, .ref q_127, .ref q_157, .ref q_190, .ref q_226, .ref q_265, .ref q_307, .ref q_352, .ref q_400, .ref q_451, .ref q_505, .ref q_562, .int 0, .ref q_622, .int 0, .ref q_685]))) q_352 = some (.inl (T 0, 484, .inl (fun _ => 0))) := wd_uk h_716 (Ne.symm ne_356)
  have h_744 : (wd_up σ_728 y (.inr (4, [.int 0, .ref q_1, .ref q_10, .ref q_22, .ref q_37, .ref q_55, .ref q_76, .ref q_100, .ref q_127, .ref q_157, .ref q_190, .ref q_226, .ref q_265, .ref q_307, .ref q_352, .ref q_400, .ref q_451, .ref q_505, .ref q_562, .int 0, .ref q_622, .int 0, .ref q_685]))) q_400 = some (.inl (T 0, 121, .inl (fun _ => 0))) := wd_uk h_718 (Ne.symm ne_404)
  have h_745 : (wd_up σ_728 y (.inr (4, [.int 0, .ref q_1, .ref q_10, .ref q_22, .ref q_37, .ref q_55, .ref q_76, .ref q_100, .ref q_127, .ref q_157, .ref q_190, .ref q_226, .ref q_265, .ref q_307, .ref q_352, .ref q_400, .ref q_451, .ref q_505, .ref q_562, .int 0, .ref q_622, .int 0, .ref q_685]))) q_451 = some (.inl (T 1, 31, .inl (fun _ => 0))) := wd_uk h_720 (Ne.symm ne_455)
  have h_746 : (wd_up σ_728 y (.inr (4, [.int 0, .ref q_1, .ref q_10, .ref q_22, .ref q_37, .ref q_55, .ref q_76, .ref q_100, .ref q_127, .ref q_157, .ref q_190, .ref q_226, .ref q_265, .ref q_307, .ref q_352, .ref q_400, .ref q_451, .ref q_505, .ref q_562, .int 0, .ref q_622, .int 0, .ref q_685]))) q_505 = some (.inl (T 0, 121, .inl (fun _ => 0))) := wd_uk h_722 (Ne.symm ne_509)
  have h_747 : (wd_up σ_728 y (.inr (4, [.int 0, .ref q_1, .ref q_10, .ref q_22, .ref q_37, .ref q_55, .ref q_76, .ref q_100, .ref q_127, .ref q_157, .ref q_190, .ref q_226, .ref q_265, .ref q_307, .ref q_352, .ref q_400, .ref q_451, .ref q_505, .ref q_562, .int 0, .ref q_622, .int 0, .ref q_685]))) q_562 = some (.inl (T 0, 121, .inl (fun _ => 0))) := wd_uk h_724 (Ne.symm ne_566)
  have h_748 : (wd_up σ_728 y (.inr (4, [.int 0, .ref q_1, .ref q_10, .ref q_22, .ref q_37, .ref q_55, .ref q_76, .ref q_100, .ref q_127, .ref q_157, .ref q_190, .ref q_226, .ref q_265, .ref q_307, .ref q_352, .ref q_400, .ref q_451, .ref q_505, .ref q_562, .int 0, .ref q_622, .int 0, .ref q_685]))) q_622 = some (.inl (T 0, 1000, .inl (fun _ => 0))) := wd_uk h_726 (Ne.symm ne_626)
  have h_749 : (wd_up σ_728 y (.inr (4, [.int 0, .ref q_1, .ref q_10, .ref q_22, .ref q_37, .ref q_55, .ref q_76, .ref q_100, .ref q_127, .ref q_157, .ref q_190, .ref q_226, .ref q_265, .ref q_307, .ref q_352, .ref q_400, .ref q_451, .ref q_505, .ref q_562, .int 0, .ref q_622, .int 0, .ref q_685]))) q_685 = some (.inl (T 0, 40, .inl (fun _ => 0))) := wd_uk h_687 (Ne.symm ne_689)
  generalize (wd_up σ_728 y (.inr (4, [.int 0, .ref q_1, .ref q_10, .ref q_22, .ref q_37, .ref q_55, .ref q_76, .ref q_100, .ref q_127, .ref q_157, .ref q_190, .ref q_226, .ref q_265, .ref q_307, .ref q_352, .ref q_400, .ref q_451, .ref q_505, .ref q_562, .int 0, .ref q_622, .int 0, .ref q_685]))) = σ_750 at h h_729 h_730 h_731 h_732 h_733 h_734 h_735 h_736 h_737 h_738 h_739 h_740 h_741 h_742 h_743 h_744 h_745 h_746 h_747 h_748 h_749
  exact wd_vret C hr hlocks h (MB.rm (am := (fun j => [0, q_1, q_10, q_22, q_37, q_55, q_76, q_100, q_127, q_157, q_190, q_226, q_265, q_307, q_352, q_400, q_451, q_505, q_562, 0, q_622, 0, q_685].getD j 0)) (fm := fun _ _ => 0) ⟨⟨h_729, mok_all (fun j => σ_750 ((fun j => [0, q_1, q_10, q_22, q_37, q_55, q_76, q_100, q_127, q_157, q_190, q_226, q_265, q_307, q_352, q_400, q_451, q_505, q_562, 0, q_622, 0, q_685].getD j 0) j) = some (aM T j (fun _ => 0))) h_730 h_731 h_732 h_733 h_734 h_735 h_736 h_737 h_738 h_739 h_740 h_741 h_742 h_743 h_744 h_745 h_746 h_747 h_748 h_749, mok_inj ne_16 ne_28 ne_43 ne_61 ne_82 ne_106 ne_133 ne_163 ne_196 ne_232 ne_271 ne_313 ne_358 ne_406 ne_457 ne_511 ne_568 ne_628 ne_691 ne_30 ne_45 ne_63 ne_84 ne_108 ne_135 ne_165 ne_198 ne_234 ne_273 ne_315 ne_360 ne_408 ne_459 ne_513 ne_570 ne_630 ne_693 ne_47 ne_65 ne_86 ne_110 ne_137 ne_167 ne_200 ne_236 ne_275 ne_317 ne_362 ne_410 ne_461 ne_515 ne_572 ne_632 ne_695 ne_67 ne_88 ne_112 ne_139 ne_169 ne_202 ne_238 ne_277 ne_319 ne_364 ne_412 ne_463 ne_517 ne_574 ne_634 ne_697 ne_90 ne_114 ne_141 ne_171 ne_204 ne_240 ne_279 ne_321 ne_366 ne_414 ne_465 ne_519 ne_576 ne_636 ne_699 ne_116 ne_143 ne_173 ne_206 ne_242 ne_281 ne_323 ne_368 ne_416 ne_467 ne_521 ne_578 ne_638 ne_701 ne_145 ne_175 ne_208 ne_244 ne_283 ne_325 ne_370 ne_418 ne_469 ne_523 ne_580 ne_640 ne_703 ne_177 ne_210 ne_246 ne_285 ne_327 ne_372 ne_420 ne_471 ne_525 ne_582 ne_642 ne_705 ne_212 ne_248 ne_287 ne_329 ne_374 ne_422 ne_473 ne_527 ne_584 ne_644 ne_707 ne_250 ne_289 ne_331 ne_376 ne_424 ne_475 ne_529 ne_586 ne_646 ne_709 ne_291 ne_333 ne_378 ne_426 ne_477 ne_531 ne_588 ne_648 ne_711 ne_335 ne_380 ne_428 ne_479 ne_533 ne_590 ne_650 ne_713 ne_382 ne_430 ne_481 ne_535 ne_592 ne_652 ne_715 ne_432 ne_483 ne_537 ne_594 ne_654 ne_717 ne_485 ne_539 ne_596 ne_656 ne_719 ne_541 ne_598 ne_658 ne_721 ne_600 ne_660 ne_723 ne_662 ne_725 ne_727⟩, fun k hk => absurd hk (Nat.not_lt_zero k), fun k _ _ => ⟨rfl, rfl, rfl, rfl, rfl, rfl, rfl, rfl⟩, fun k hk => absurd hk (Nat.not_lt_zero k), fun k _ _ j _ => ⟨rfl, rfl⟩, fun k hk => absurd hk (Nat.not_lt_zero k), fun _ _ => rfl, fun j hj => absurd hj (Nat.not_lt_zero j), Nat.zero_le _, Nat.zero_le _, Nat.zero_le _⟩) (Nat.le_of_ble_eq_true rfl) (Nat.le_of_ble_eq_true rfl) d_M_init_167
