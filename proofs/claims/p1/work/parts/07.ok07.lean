set_option maxRecDepth 100000
theorem e_Ok_0 : ∀ i, 0 ≤ i → i < 10 → e_Ok i := by
  intro i h1 h2
  have : i = 0 ∨ i = 1 ∨ i = 2 ∨ i = 3 ∨ i = 4 ∨ i = 5 ∨ i = 6 ∨ i = 7 ∨ i = 8 ∨ i = 9 := by omega
  rcases this with rfl | rfl | rfl | rfl | rfl | rfl | rfl | rfl | rfl | rfl
  · exact e_k0
  · exact e_k1
  · exact e_k2
  · exact e_k3
  · exact e_k4
  · exact e_k5
  · exact e_k6
  · exact e_k7
  · exact e_k8
  · exact e_k9
theorem e_Ok_10 : ∀ i, 10 ≤ i → i < 20 → e_Ok i := by
  intro i h1 h2
  have : i = 10 ∨ i = 11 ∨ i = 12 ∨ i = 13 ∨ i = 14 ∨ i = 15 ∨ i = 16 ∨ i = 17 ∨ i = 18 ∨ i = 19 := by omega
  rcases this with rfl | rfl | rfl | rfl | rfl | rfl | rfl | rfl | rfl | rfl
  · exact e_k10
  · exact e_k11
  · exact e_k12
  · exact e_k13
  · exact e_k14
  · exact e_k15
  · exact e_k16
  · exact e_k17
  · exact e_k18
  · exact e_k19
theorem e_Ok_20 : ∀ i, 20 ≤ i → i < 30 → e_Ok i := by
  intro i h1 h2
  have : i = 20 ∨ i = 21 ∨ i = 22 ∨ i = 23 ∨ i = 24 ∨ i = 25 ∨ i = 26 ∨ i = 27 ∨ i = 28 ∨ i = 29 := by omega
  rcases this with rfl | rfl | rfl | rfl | rfl | rfl | rfl | rfl | rfl | rfl
  · exact e_k20
  · exact e_k21
  · exact e_k22
  · exact e_k23
  · exact e_k24
  · exact e_k25
  · exact e_k26
  · exact e_k27
  · exact e_k28
  · exact e_k29
theorem e_Ok_30 : ∀ i, 30 ≤ i → i < 40 → e_Ok i := by
  intro i h1 h2
  have : i = 30 ∨ i = 31 ∨ i = 32 ∨ i = 33 ∨ i = 34 ∨ i = 35 ∨ i = 36 ∨ i = 37 ∨ i = 38 ∨ i = 39 := by omega
  rcases this with rfl | rfl | rfl | rfl | rfl | rfl | rfl | rfl | rfl | rfl
  · exact e_k30
  · exact e_k31
  · exact e_k32
  · exact e_k33
  · exact e_k34
  · exact e_k35
  · exact e_k36
  · exact e_k37
  · exact e_k38
  · exact e_k39
theorem e_Ok_40 : ∀ i, 40 ≤ i → i < 50 → e_Ok i := by
  intro i h1 h2
  have : i = 40 ∨ i = 41 ∨ i = 42 ∨ i = 43 ∨ i = 44 ∨ i = 45 ∨ i = 46 ∨ i = 47 ∨ i = 48 ∨ i = 49 := by omega
  rcases this with rfl | rfl | rfl | rfl | rfl | rfl | rfl | rfl | rfl | rfl
  · exact e_k40
  · exact e_k41
  · exact e_k42
  · exact e_k43
  · exact e_k44
  · exact e_k45
  · exact e_k46
  · exact e_k47
  · exact e_k48
  · exact e_k49
theorem e_Ok_50 : ∀ i, 50 ≤ i → i < 60 → e_Ok i := by
  intro i h1 h2
  have : i = 50 ∨ i = 51 ∨ i = 52 ∨ i = 53 ∨ i = 54 ∨ i = 55 ∨ i = 56 ∨ i = 57 ∨ i = 58 ∨ i = 59 := by omega
  rcases this with rfl | rfl | rfl | rfl | rfl | rfl | rfl | rfl | rfl | rfl
  · exact e_k50
  · exact e_k51
  · exact e_k52
  · exact e_k53
  · exact e_k54
  · exact e_k55
  · exact e_k56
  · exact e_k57
  · exact e_k58
  · exact e_k59
theorem e_Ok_60 : ∀ i, 60 ≤ i → i < 70 → e_Ok i := by
  intro i h1 h2
  have : i = 60 ∨ i = 61 ∨ i = 62 ∨ i = 63 ∨ i = 64 ∨ i = 65 ∨ i = 66 ∨ i = 67 ∨ i = 68 ∨ i = 69 := by omega
  rcases this with rfl | rfl | rfl | rfl | rfl | rfl | rfl | rfl | rfl | rfl
  · exact e_k60
  · exact e_k61
  · exact e_k62
  · exact e_k63
  · exact e_k64
  · exact e_k65
  · exact e_k66
  · exact e_k67
  · exact e_k68
  · exact e_k69
theorem e_Ok_70 : ∀ i, 70 ≤ i → i < 79 → e_Ok i := by
  intro i h1 h2
  have : i = 70 ∨ i = 71 ∨ i = 72 ∨ i = 73 ∨ i = 74 ∨ i = 75 ∨ i = 76 ∨ i = 77 ∨ i = 78 := by omega
  rcases this with rfl | rfl | rfl | rfl | rfl | rfl | rfl | rfl | rfl
  · exact e_k70
  · exact e_k71
  · exact e_k72
  · exact e_k73
  · exact e_k74
  · exact e_k75
  · exact e_k76
  · exact e_k77
  · exact e_k78
theorem e_Ok_all : ∀ i, i < 79 → e_Ok i := by
  intro i hi
  by_cases h0 : i < 10
  · exact e_Ok_0 i (by omega) h0
  by_cases h10 : i < 20
  · exact e_Ok_10 i (by omega) h10
  by_cases h20 : i < 30
  · exact e_Ok_20 i (by omega) h20
  by_cases h30 : i < 40
  · exact e_Ok_30 i (by omega) h30
  by_cases h40 : i < 50
  · exact e_Ok_40 i (by omega) h40
  by_cases h50 : i < 60
  · exact e_Ok_50 i (by omega) h50
  by_cases h60 : i < 70
  · exact e_Ok_60 i (by omega) h60
  by_cases h70 : i < 79
  · exact e_Ok_70 i (by omega) h70
  omega
theorem e_OkM_0 : ∀ i, 0 ≤ i → i < 10 → e_OkM i := by
  intro i h1 h2
  have : i = 0 ∨ i = 1 ∨ i = 2 ∨ i = 3 ∨ i = 4 ∨ i = 5 ∨ i = 6 ∨ i = 7 ∨ i = 8 ∨ i = 9 := by omega
  rcases this with rfl | rfl | rfl | rfl | rfl | rfl | rfl | rfl | rfl | rfl
  · exact e_j0
  · exact e_j1
  · exact e_j2
  · exact e_j3
  · exact e_j4
  · exact e_j5
  · exact e_j6
  · exact e_j7
  · exact e_j8
  · exact e_j9
theorem e_OkM_10 : ∀ i, 10 ≤ i → i < 20 → e_OkM i := by
  intro i h1 h2
  have : i = 10 ∨ i = 11 ∨ i = 12 ∨ i = 13 ∨ i = 14 ∨ i = 15 ∨ i = 16 ∨ i = 17 ∨ i = 18 ∨ i = 19 := by omega
  rcases this with rfl | rfl | rfl | rfl | rfl | rfl | rfl | rfl | rfl | rfl
  · exact e_j10
  · exact e_j11
  · exact e_j12
  · exact e_j13
  · exact e_j14
  · exact e_j15
  · exact e_j16
  · exact e_j17
  · exact e_j18
  · exact e_j19
theorem e_OkM_20 : ∀ i, 20 ≤ i → i < 30 → e_OkM i := by
  intro i h1 h2
  have : i = 20 ∨ i = 21 ∨ i = 22 ∨ i = 23 ∨ i = 24 ∨ i = 25 ∨ i = 26 ∨ i = 27 ∨ i = 28 ∨ i = 29 := by omega
  rcases this with rfl | rfl | rfl | rfl | rfl | rfl | rfl | rfl | rfl | rfl
  · exact e_j20
  · exact e_j21
  · exact e_j22
  · exact e_j23
  · exact e_j24
  · exact e_j25
  · exact e_j26
  · exact e_j27
  · exact e_j28
  · exact e_j29
theorem e_OkM_30 : ∀ i, 30 ≤ i → i < 40 → e_OkM i := by
  intro i h1 h2
  have : i = 30 ∨ i = 31 ∨ i = 32 ∨ i = 33 ∨ i = 34 ∨ i = 35 ∨ i = 36 ∨ i = 37 ∨ i = 38 ∨ i = 39 := by omega
  rcases this with rfl | rfl | rfl | rfl | rfl | rfl | rfl | rfl | rfl | rfl
  · exact e_j30
  · exact e_j31
  · exact e_j32
  · exact e_j33
  · exact e_j34
  · exact e_j35
  · exact e_j36
  · exact e_j37
  · exact e_j38
  · exact e_j39
theorem e_OkM_40 : ∀ i, 40 ≤ i → i < 50 → e_OkM i := by
  intro i h1 h2
  have : i = 40 ∨ i = 41 ∨ i = 42 ∨ i = 43 ∨ i = 44 ∨ i = 45 ∨ i = 46 ∨ i = 47 ∨ i = 48 ∨ i = 49 := by omega
  rcases this with rfl | rfl | rfl | rfl | rfl | rfl | rfl | rfl | rfl | rfl
  · exact e_j40
  · exact e_j41
  · exact e_j42
  · exact e_j43
  · exact e_j44
  · exact e_j45
  · exact e_j46
  · exact e_j47
  · exact e_j48
  · exact e_j49
theorem e_OkM_50 : ∀ i, 50 ≤ i → i < 60 → e_OkM i := by
  intro i h1 h2
  have : i = 50 ∨ i = 51 ∨ i = 52 ∨ i = 53 ∨ i = 54 ∨ i = 55 ∨ i = 56 ∨ i = 57 ∨ i = 58 ∨ i = 59 := by omega
  rcases this with rfl | rfl | rfl | rfl | rfl | rfl | rfl | rfl | rfl | rfl
  · exact e_j50
  · exact e_j51
  · exact e_j52
  · exact e_j53
  · exact e_j54
  · exact e_j55
  · exact e_j56
  · exact e_j57
  · exact e_j58
  · exact e_j59
theorem e_OkM_60 : ∀ i, 60 ≤ i → i < 70 → e_OkM i := by
  intro i h1 h2
  have : i = 60 ∨ i = 61 ∨ i = 62 ∨ i = 63 ∨ i = 64 ∨ i = 65 ∨ i = 66 ∨ i = 67 ∨ i = 68 ∨ i = 69 := by omega
  rcases this with rfl | rfl | rfl | rfl | rfl | rfl | rfl | rfl | rfl | rfl
  · exact e_j60
  · exact e_j61
  · exact e_j62
  · exact e_j63
  · exact e_j64
  · exact e_j65
  · exact e_j66
  · exact e_j67
  · exact e_j68
  · exact e_j69
theorem e_OkM_70 : ∀ i, 70 ≤ i → i < 79 → e_OkM i := by
  intro i h1 h2
  have : i = 70 ∨ i = 71 ∨ i = 72 ∨ i = 73 ∨ i = 74 ∨ i = 75 ∨ i = 76 ∨ i = 77 ∨ i = 78 := by omega
  rcases this with rfl | rfl | rfl | rfl | rfl | rfl | rfl | rfl | rfl
  · exact e_j70
  · exact e_j71
  · exact e_j72
  · exact e_j73
  · exact e_j74
  · exact e_j75
  · exact e_j76
  · exact e_j77
  · exact e_j78
theorem e_OkM_all : ∀ i, i < 79 → e_OkM i := by
  intro i hi
  by_cases h0 : i < 10
  · exact e_OkM_0 i (by omega) h0
  by_cases h10 : i < 20
  · exact e_OkM_10 i (by omega) h10
  by_cases h20 : i < 30
  · exact e_OkM_20 i (by omega) h20
  by_cases h30 : i < 40
  · exact e_OkM_30 i (by omega) h30
  by_cases h40 : i < 50
  · exact e_OkM_40 i (by omega) h40
  by_cases h50 : i < 60
  · exact e_OkM_50 i (by omega) h50
  by_cases h60 : i < 70
  · exact e_OkM_60 i (by omega) h60
  by_cases h70 : i < 79
  · exact e_OkM_70 i (by omega) h70
  omega
