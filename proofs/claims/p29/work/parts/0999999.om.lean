theorem om_008057e4 {a0 a1 a2 : Int} (h0 : a0 ≤ 4) (h1 : a1 < a0) (h2 : a2 = a1 + 1) : a2 ≤ 2147483647 := by omega
theorem om_00968808 {a0 a1 a2 a3 : Int} (h0 : a0 = (4 * a1 + a2) - a3) : a0 = 4 * a1 + a2 + (-1) * a3 := by omega
theorem om_00be785e {a0 a1 : Int} (h0 : a0 = 0) : a1 ≤ a1 + 4 * a0 := by omega
theorem om_00dddfba {a0 a1 : Int} (h0 : a0 ≤ 4) (h1 : a1 ≤ 9 * a0) : a1 ≤ 36 := by omega
theorem om_00f1c5dd {a0 a1 : Int} (h0 : a0 ≤ 1) (h1 : a1 = 1) : a0 ≤ a1 := by omega
theorem om_013dbd5a {a0 : Int} (h0 : a0 = 99) : a0 ≤ 99 := by omega
theorem om_01420f9f {a0 a1 a2 : Int} (h0 : a0 + a1 ≤ 287) (h1 : a2 < a1) : a0 + a2 < ((287 : Nat) : Int) := by omega
theorem om_01615985 {a0 : Int} (h0 : 0 ≤ a0) : -2147483648 ≤ 10 * a0 := by omega
theorem om_017f17f3 {a0 a1 a2 a3 : Int} (h0 : a0 ≤ 880) (h1 : a1 = a0 + 4) (h2 : a2 = a1 + 4) (h3 : a3 = a2 + 4) : a3 ≤ 896 := by omega
theorem om_01a37b96 {a0 a1 : Int} (h0 : 0 ≤ a0) (h1 : 0 ≤ a1) : -2147483648 ≤ a1 + a0 := by omega
theorem om_01db022b {a0 a1 a2 a3 : Int} (h0 : a0 < a1) (h1 : a1 ≤ 18) (h2 : a2 ≤ 4) (h3 : a3 ≤ a2) : 4 * a0 + a3 < ((90 : Nat) : Int) := by omega
theorem om_01e0589b (n9 : Nat) : (0) + 1 ≤ 2 * (n9 + 1) + 6 := by omega
theorem om_02032f93 {a0 : Int} (h0 : a0 = 1) : a0 ≤ 1 := by omega
theorem om_020efcbd {a0 a1 : Int} (h0 : a0 < a1) (h1 : a1 ≤ 18) : (4 * a0) + 3 < 2147483648 := by omega
theorem om_02dc0f5c {a0 a1 : Int} (h0 : a0 < a1) (h1 : 0 ≤ a0) : 1 ≤ a1 := by omega
theorem om_02e9bb08 {a0 : Int} (h0 : a0 = 0) : a0 ≤ 0 := by omega
theorem om_03822165 {a0 a1 : Int} (h0 : 0 ≤ a0) (h1 : 0 ≤ a1) : 0 ≤ a0 + a1 + 1 := by omega
theorem om_03d58641 {a0 : Int} (h0 : a0 = 287) : 0 ≤ a0 := by omega
theorem om_04280604 {a0 : Int} (h0 : a0 ≤ 17) : 9 + a0 < 2147483648 := by omega
theorem om_04b77946 {a0 a1 a2 : Int} (h0 : a0 = (4 * a1 + a2) + 1) : a0 = 4 * a1 + a2 + 1 := by omega
theorem om_04c49496 {a0 : Int} (h0 : 0 ≤ a0) : -2147483648 ≤ 75 * a0 := by omega
theorem om_04ff637e {a0 a1 a2 : Int} (h0 : 0 ≤ a0) (h1 : a0 + a1 ≤ 287) (h2 : a2 ≤ a1) : a2 + 1 < 2147483648 := by omega
theorem om_0511bc05 {a0 a1 : Int} (h0 : a0 = a1) (h1 : a1 < 8) : a0 ≤ 7 := by omega
theorem om_0536e2b4 {a0 a1 a2 : Int} (h0 : a0 ≤ 4) (h1 : 0 ≤ a1) (h2 : 0 ≤ a2) : -2147483648 ≤ (a1 + a2) - a0 := by omega
theorem om_05453fa9 (n9 : Nat) : 8 + (6 + 11) + (0) ≤ 10 + 30 * (n9 + 1) := by omega
theorem om_056a216f {a0 a1 : Int} (h0 : 0 ≤ a0) (h1 : 0 ≤ a1) : -2147483648 ≤ (4 * a0) + a1 := by omega
theorem om_05aad589 {a0 : Int} (h0 : a0 = (-1)) : (-1) ≤ a0 := by omega
theorem om_05aee768 {NV0 : Nat} {a0 a1 a2 : Int} (h0 : (NV0 : Int) = a0) (h1 : a1 ≤ 4) (h2 : a1 = a2) (h3 : a0 < a2) : NV0 < 4 := by omega
theorem om_05d4ad0a {NV0 : Nat} {a0 a1 : Int} (h0 : (NV0 : Int) = a0) (h1 : a0 < a1) : (NV0 : Int) < a1 := by omega
theorem om_05dc9dfe {NV0 : Nat} {a0 a1 a2 : Int} (h0 : (NV0 : Int) = a0 + 27) (h1 : a1 ≤ 18) (h2 : a1 = a2) (h3 : a0 < a2) : NV0 < 45 := by omega
theorem om_0709c689 {a0 a1 : Int} (h0 : a0 ≤ 99) (h1 : a1 ≤ 99) : a0 + a1 < 2147483648 := by omega
theorem om_081ed7e0 {a0 a1 a2 : Int} (h0 : a0 ≤ 4) (h1 : a0 = a1) (h2 : a2 < a1) : a2 ≤ 3 := by omega
theorem om_0844da4c {a0 a1 : Int} (h0 : a0 = 0) (h1 : a1 = 8) : a0 + a1 ≤ 8 := by omega
theorem om_0886d075 {a0 a1 : Int} (h0 : a0 = a1 + 1) : 18 - a0 < 18 - a1 := by omega
theorem om_08b9ba93 {a0 a1 a2 : Int} (h0 : a0 + a1 ≤ 270) (h1 : a2 < a1) : a0 + a2 < ((270 : Nat) : Int) := by omega
theorem om_08ccee3a {NV0 NV1 NV2 : Nat} {a0 a1 : Int} (h0 : (NV0 : Int) = a0) (h1 : (NV1 : Int) = a1) (h2 : (NV2 : Int) = a0 + a1) : NV0 + NV1 = NV2 := by omega
theorem om_090bbef4 {a0 : Int} (h0 : 0 ≤ a0) : -2147483648 ≤ 9 + a0 := by omega
theorem om_09900d5d {a0 a1 a2 : Int} (h0 : a0 ≤ 399) (h1 : a1 < a0) (h2 : a2 = a1 + 1) : a2 ≤ 2147483647 := by omega
theorem om_09c47414 {a0 : Int} (h0 : a0 < 900) : 0 < 2147483647 - a0 := by omega
theorem om_0a11c178 {a0 : Int} (h0 : a0 ≤ 399) : a0 - 1 < 2147483648 := by omega
theorem om_0a841fa4 {a0 : Int} (h0 : a0 = 24) : a0 ≤ 24 := by omega
theorem om_0ab12ad6 {a0 a1 a2 : Int} (h0 : a0 = (4 * a1 + 45) + a2) : a0 = 4 * a1 + a2 + 45 := by omega
theorem om_0b966d5d {a0 : Int} (h0 : a0 ≤ 3) : a0 + (-1) < 2147483648 := by omega
theorem om_0c5ad906 {a0 a1 a2 : Int} (h0 : -1 ≤ a0) (h1 : a0 < a1) (h2 : a1 = a2) : -2147483648 ≤ 45 + (4 * a2) := by omega
theorem om_0ca29412 {a0 a1 : Int} (h0 : a0 ≤ 4) (h1 : a1 < a0) : a1 + 1 < 2147483648 := by omega
theorem om_0d98f29e {a0 a1 : Int} (h0 : 0 ≤ a0) (h1 : 0 ≤ a1) : -2147483648 ≤ a0 + a1 := by omega
theorem om_0e7b5a1f (n9 : Nat) : (2 * (n9 + 1) + 4) + 1 ≤ 2 * (n9 + 1) + 6 := by omega
theorem om_0f2844ff {a0 a1 a2 a3 : Int} (h0 : a0 = 4 * a1 + 4) (h1 : a2 ≤ a3 + 4 * a1 + 4) : a2 ≤ a3 + a0 := by omega
theorem om_0fea8496 {a0 a1 : Int} (h0 : a0 < a1) (h1 : a1 ≤ 18) : 4 * a0 < ((90 : Nat) : Int) := by omega
theorem om_10244f99 {a0 : Int} (h0 : a0 < 10) : 0 < 2147483647 - a0 := by omega
theorem om_10e45097 {a0 a1 a2 a3 a4 : Int} (h0 : a0 = a1 + a2) (h1 : a1 ≤ 10) (h2 : a2 ≤ 7) (h3 : a3 = a0) (h4 : a4 = a3) : a4 ≤ 17 := by omega
theorem om_11cc87cb {a0 a1 : Int} (h0 : 0 ≤ a0) (h1 : a0 ≤ a1) : 0 ≤ a1 := by omega
theorem om_12bf95c9 {a0 : Int} (h0 : a0 ≤ 4) : 117 + (2 * a0) < 2147483648 := by omega
theorem om_1343fdf1 {a0 a1 a2 a3 a4 : Int} (h0 : a0 = a1 + a2) (h1 : a1 ≤ 10) (h2 : a2 ≤ 8) (h3 : a0 = a3) (h4 : a4 ≤ 4) : 4 * a3 + a4 < ((90 : Nat) : Int) := by omega
theorem om_145e734a {a0 a1 : Int} (h0 : a0 < 16) (h1 : a1 = a0 + 1) : a1 ≤ 16 := by omega
theorem om_14f5635e {a0 a1 a2 a3 a4 : Int} (h0 : a0 = a1 + a2) (h1 : a3 = a0 + 1) (h2 : a4 = a2 + 1) : a3 = a1 + a4 := by omega
theorem om_152fbd22 {a0 a1 : Int} (h0 : a0 = 24 - (8 * a1)) : a0 = (-8) * a1 + 24 := by omega
theorem om_1556a003 {a0 a1 a2 a3 a4 a5 : Int} (h0 : a0 = 4 * a1 + 4) (h1 : a2 ≤ a3 + a4) (h2 : a4 + a1 ≤ 4 * a1) (h3 : a5 ≤ a2 + a1) : a5 ≤ a3 + a0 := by omega
theorem om_15fea5ea {a0 a1 : Int} (h0 : a0 = 100 - a1) : a0 = (-1) * a1 + 100 := by omega
theorem om_1636ca6f {a0 a1 : Int} (h0 : a0 < a1) (h1 : a1 ≤ a0) : False := by omega
theorem om_18991521 {a0 a1 a2 : Int} (h0 : 0 ≤ a0) (h1 : a0 = a1) (h2 : a2 = 8 * a1 + 143) : 0 ≤ a2 := by omega
theorem om_18eccbe9 {a0 a1 : Int} (h0 : a0 ≤ 18) (h1 : a1 = a0 + (-1)) : a1 ≤ 17 := by omega
theorem om_18f2890d {a0 a1 : Int} (h0 : -1 ≤ a0) (h1 : a0 < a1) : 0 ≤ a1 := by omega
theorem om_19203255 {a0 a1 : Int} (h0 : a0 ≤ 0) (h1 : a1 = 89478485) : a0 + a1 ≤ 1000000000 := by omega
theorem om_1954cd07 {a0 : Int} (h0 : a0 ≤ 900) : a0 + 20 < 2147483648 := by omega
theorem om_19da1274 {NV0 : Nat} {a0 a1 a2 : Int} (h0 : (NV0 : Int) = a0 + 9) (h1 : a1 ≤ 18) (h2 : a1 = a2) (h3 : a0 < a2) : NV0 < 27 := by omega
theorem om_19f1ec8e {a0 a1 : Int} (h0 : a0 ≤ 10) (h1 : a1 = a0 + (-1)) : a1 ≤ 10 := by omega
theorem om_1ab2c227 {a0 a1 a2 : Int} (h0 : -1 ≤ a0) (h1 : a0 < a1) (h2 : a1 = a2) : 0 ≤ a2 := by omega
theorem om_1ad1f819 {a0 a1 a2 a3 : Int} (h0 : a0 = a1) (h1 : a2 < a1) (h2 : a3 = a2 + 1) : a3 ≤ a0 := by omega
theorem om_1ad592d1 {a0 a1 : Int} (h0 : a0 = a1 + 1) : a0 ≤ a1 + 16 := by omega
theorem om_1b19dd83 {a0 a1 : Int} (h0 : a0 < 90) (h1 : a1 = a0 + 1) : a1 ≤ 90 := by omega
theorem om_1b364b1c {a0 : Int} (h0 : a0 = 1) : 0 ≤ a0 := by omega
theorem om_1ba63ebc {a0 : Int} (h0 : a0 ≤ 999) : a0 + 1 < 2147483648 := by omega
theorem om_1c4f6f52 (n9 : Nat) : 8 + (6 + 11) + (600 + 30 * n9) ≤ 600 + 30 * (n9 + 1) := by omega
theorem om_1c83fd7f {a0 a1 a2 : Int} (h0 : a0 ≤ 17) (h1 : a1 ≤ 3) (h2 : a2 < a1) : 4 * a0 + a2 + 1 < ((72 : Nat) : Int) := by omega
theorem om_1c900f0b {a0 a1 : Int} (h0 : a0 = (4 * a1) + 0) : a0 = 4 * a1 := by omega
theorem om_1cb5f934 {a0 : Int}  : a0 ≤ a0 := by omega
theorem om_1d5f9f43 {a0 a1 a2 a3 : Int} (h0 : a0 = a1 + a2) (h1 : a1 ≤ 10) (h2 : a2 ≤ 8) (h3 : a0 = a3) : a3 - 1 < 2147483648 := by omega
theorem om_1d81799e {a0 : Int} (h0 : a0 < 90) : 0 < 90 - a0 := by omega
theorem om_1d8d3769 {a0 a1 : Int} (h0 : a0 = (a1 + (-1)) + 1) : a0 = a1 := by omega
theorem om_1d8fb110 {a0 : Int} (h0 : a0 = 2) : 1 ≤ a0 := by omega
theorem om_1d961dd4 {a0 a1 : Int} (h0 : a0 = 0) : a1 ≤ a1 + 1 * a0 := by omega
theorem om_1d9fa7fb {a0 a1 : Int} (h0 : a0 ≤ 18) (h1 : a1 < a0) : 0 < 2147483647 - a1 := by omega
theorem om_1e3f52a0 {a0 a1 : Int} (h0 : a0 = a1 + (-8)) : a0 + 8 < a1 + 8 := by omega
theorem om_1e4644e1 {a0 a1 : Int} (h0 : 0 ≤ a0) (h1 : a0 + a1 ≤ 100) : 4 * a1 < 2147483648 := by omega
theorem om_1e5d775c {a0 : Int} (h0 : 0 ≤ a0) : 0 ≤ 4 * a0 + 3 := by omega
theorem om_1eac56af {a0 : Int} (h0 : a0 ≤ 90) : a0 + 1 < 2147483648 := by omega
theorem om_1fc3dec6 {a0 a1 : Int} (h0 : a0 = 0) (h1 : 0 ≤ a1) : a0 ≤ a1 := by omega
theorem om_1fd76bdc {a0 a1 : Int} (h0 : 1 ≤ a0) (h1 : a1 = 0) : a1 ≤ a0 := by omega
theorem om_201a3488 {a0 : Int} (h0 : 1 ≤ a0) : 0 ≤ a0 + (-1) := by omega
theorem om_20253e97 {a0 : Int} (h0 : a0 ≤ 10) : a0 - 1 < 2147483648 := by omega
theorem om_20bf1cb9 {a0 a1 : Int} (h0 : a0 = (4 * a1) + 2) : a0 = 4 * a1 + 2 := by omega
theorem om_21302a3a {a0 a1 a2 : Int} (h0 : 0 ≤ a0) (h1 : 0 ≤ a1) (h2 : a1 ≤ a2) : -2147483648 ≤ (4 * a0) + a2 := by omega
theorem om_216d7917 {a0 a1 a2 : Int} (h0 : a0 = a1) (h1 : a2 = a0) : a2 = a1 := by omega
theorem om_219cd8d8 {a0 a1 : Int} (h0 : a0 < 2147483648) (h1 : a1 < a0) : a1 + 1 < 2147483648 := by omega
theorem om_21cef2c6 {a0 a1 a2 : Int} (h0 : a0 < a1) (h1 : a0 = a2) : a2 < a1 := by omega
theorem om_21e450b4 {a0 a1 a2 a3 a4 : Int} (h0 : a0 = a1 + a2) (h1 : a1 ≤ 10) (h2 : a2 ≤ 8) (h3 : a0 = a3) (h4 : a4 ≤ 4) : 4 * a3 + a4 + 45 < ((287 : Nat) : Int) := by omega
theorem om_223330b6 {a0 : Int} (h0 : a0 ≤ 3) : 90 * a0 < 2147483648 := by omega
theorem om_226ecc05 {a0 : Int} (h0 : a0 ≤ 17) : 72 + a0 < 2147483648 := by omega
theorem om_22b8c60f {a0 a1 : Int} (h0 : 0 ≤ a0) (h1 : a1 = a0 + (-8)) : -8 ≤ a1 := by omega
theorem om_22f0aee5 {NV0 NV1 : Nat} {a0 a1 : Int} (h0 : (NV0 : Int) = a0) (h1 : (NV1 : Int) = a1) : NV0 + 4 * NV1 = 4 * NV1 + (NV0) := by omega
theorem om_230aefbf {a0 a1 : Int} (h0 : a0 = a1 + 2) : 3 - a0 < 3 - a1 := by omega
theorem om_237a2181 (n9 : Nat) : (0) + 1 ≤ 2 * n9 + 5 := by omega
theorem om_23b2582f {a0 : Int} (h0 : 0 ≤ a0) : -2147483648 ≤ (4 * a0) + 1 := by omega
theorem om_24300f0a {NV0 NV1 : Nat} {a0 a1 : Int} (h0 : (NV0 : Int) = a0) (h1 : (NV1 : Int) = a1) : 4 * NV0 + NV1 = 4 * NV0 + (NV1) := by omega
theorem om_243ebd5d {a0 a1 a2 a3 : Int} (h0 : a0 ≤ 4) (h1 : a1 ≤ 9 * a0) (h2 : a2 = a3) (h3 : a2 ≤ 9) : a1 + a3 < 2147483648 := by omega
theorem om_2470ff38 {a0 a1 : Int} (h0 : a0 ≤ 4) (h1 : a1 < a0) : a1 < ((4 : Nat) : Int) := by omega
theorem om_24843d57 {a0 a1 a2 : Int} (h0 : a0 = a1 + a2) (h1 : a2 ≤ 8) (h2 : a1 ≤ 9) : a0 ≤ 17 := by omega
theorem om_25096cef {a0 a1 : Int} (h0 : a0 = a1 + 1) : a1 + 1 ≤ a0 := by omega
theorem om_25c63b8c {a0 a1 : Int} (h0 : 0 ≤ a0) (h1 : a0 = a1) : -2147483648 ≤ a1 - 1 := by omega
theorem om_2606a7f9 {a0 a1 : Int} (h0 : 0 ≤ a0) (h1 : a0 + a1 ≤ 100) : a1 + 9 < ((287 : Nat) : Int) := by omega
theorem om_265a067d {a0 a1 a2 a3 : Int} (h0 : a0 ≤ 17) (h1 : a1 ≤ 4) (h2 : a2 < a1) (h3 : a3 < a1) : (4 * a0) + ((-1) * a1 + a2 + a3) < 2147483648 := by omega
theorem om_266f1107 {a0 a1 a2 a3 a4 : Int} (h0 : a0 = 4 * a1 + 1) (h1 : a2 ≤ a3 + a4) (h2 : a4 ≤ 4 * a1) : a2 ≤ a3 + a0 := by omega
theorem om_26e0d5d2 {a0 : Int} (h0 : a0 ≤ 880) : a0 ≤ 896 := by omega
theorem om_26fca3fc {a0 a1 : Int} (h0 : a0 ≤ 16) (h1 : a1 < a0) : a1 + 1 < 2147483648 := by omega
theorem om_270f4ea0 {a0 : Int} (h0 : a0 = 0) : a0 ≤ 1 := by omega
theorem om_27bcd485 {a0 : Int} (h0 : a0 ≤ 17) : a0 + (-1) < 2147483648 := by omega
theorem om_27c61d48 {a0 : Int} (h0 : 0 ≤ a0) : -2147483648 ≤ (4 * a0) + 3 := by omega
theorem om_27cbe1c0 {a0 a1 : Int} (h0 : a0 < a1) : a0 + 3 < a1 + 3 := by omega
theorem om_27df6bf1 {a0 : Int} (h0 : a0 ≤ 3) : a0 < ((4 : Nat) : Int) := by omega
theorem om_28342dff {NV0 NV1 NV2 : Nat} {a0 a1 : Int} (h0 : (NV0 : Int) = a0) (h1 : (NV1 : Int) = a1) (h2 : (NV2 : Int) = a0 + 4 * a1) : NV0 + 4 * NV1 = NV2 := by omega
theorem om_285f573d {a0 a1 : Int} (h0 : 0 ≤ a0) (h1 : a1 = a0 + 1) : 1 ≤ a1 := by omega
theorem om_289cd1d9 {a0 : Int} (h0 : a0 < 4) : a0 < ((4 : Nat) : Int) := by omega
theorem om_29114139 {a0 a1 : Int} (h0 : a0 = 0) (h1 : a1 = 287) : a0 + a1 ≤ 287 := by omega
theorem om_29359488 {a0 a1 a2 a3 a4 a5 : Int} (h0 : a0 ≤ a1 + a2) (h1 : a2 + a3 ≤ 4 * a3) (h2 : a4 ≤ a0 + a3) (h3 : a5 ≤ a4 + 4) : a5 ≤ a1 + 4 * a3 + 4 := by omega
theorem om_293cb415 {a0 : Int} (h0 : a0 ≤ 12) : a0 + 1 < 2147483648 := by omega
theorem om_29546207 {a0 a1 : Int} (h0 : a0 = a1 + 1) : 16 - a0 < 16 - a1 := by omega
theorem om_296ce4dd {a0 a1 : Int} (h0 : a0 = 9 + a1) : a0 = a1 + 9 := by omega
theorem om_29a9bce9 {a0 a1 a2 : Int} (h0 : a0 + a1 ≤ 270) (h1 : a2 ≤ a1) : a0 + a2 < 2147483648 := by omega
theorem om_29fa77d8 {a0 a1 a2 : Int} (h0 : a0 ≤ 8) (h1 : a1 ≤ 18) (h2 : a2 ≤ a0) : (8 * a1 + 143) + a2 < 2147483648 := by omega
theorem om_2aa83bf6 {a0 a1 a2 a3 : Int} (h0 : a0 ≤ 4) (h1 : a0 = a1) (h2 : a2 < a1) (h3 : a3 = a2 + 1) : a3 ≤ 2147483647 := by omega
theorem om_2ab9c540 {a0 a1 a2 a3 a4 : Int} (h0 : a0 ≤ 2) (h1 : a1 = a0) (h2 : a2 = a1) (h3 : a3 = a2) (h4 : a3 = a4) : a4 + 0 < 2147483648 := by omega
theorem om_2ad8b1ab {a0 : Int} (h0 : 0 ≤ a0) : 0 ≤ a0 + 72 := by omega
theorem om_2b5817db {NV0 : Nat} {a0 : Int} (h0 : (NV0 : Int) = a0) : 117 + 2 * NV0 = 117 + 2 * NV0 := by omega
theorem om_2c293d08 {a0 : Int} (h0 : a0 < 1350) : a0 + 90 < ((1440 : Nat) : Int) := by omega
theorem om_2c69d3de {a0 a1 : Int} (h0 : a0 + (-3) ≤ 0) (h1 : a1 = a0 + 1) : a1 ≤ 4 := by omega
theorem om_2d06027e {a0 a1 a2 a3 : Int} (h0 : a0 < a1) (h1 : a0 = a2) (h2 : a3 < a2) : a3 < a1 := by omega
theorem om_2d0716db {a0 a1 : Int} (h0 : a0 = 72 + a1) : a0 = a1 + 72 := by omega
theorem om_2d38588c {a0 a1 a2 a3 : Int} (h0 : a0 ≤ a1) (h1 : a1 ≤ a2) (h2 : a2 + 1 ≤ a3) : a0 + 1 ≤ a3 := by omega
theorem om_2dfe280d {a0 a1 : Int} (h0 : 0 ≤ a0) (h1 : a1 = 0) : a1 ≤ a0 := by omega
theorem om_2dfe3766 {a0 a1 a2 : Int} (h0 : a0 + a1 ≤ 8) (h1 : a2 ≤ a1) : a0 + a2 < 2147483648 := by omega
theorem om_2e1e2bc0 {a0 a1 : Int} (h0 : a0 ≤ 0) (h1 : a1 = 357913940) : a0 + a1 ≤ 1000000000 := by omega
theorem om_2e318dd7 {a0 a1 a2 : Int} (h0 : (-1) * a0 + 1 ≤ 0) (h1 : a0 ≤ a1) (h2 : a1 ≤ a2) (h3 : a2 = 0) : False := by omega
theorem om_2e3bc2c7 {a0 a1 a2 : Int} (h0 : a0 ≤ 880) (h1 : a1 = a0 + 4) (h2 : a2 = a1 + 4) : a2 ≤ 896 := by omega
theorem om_2e86adf1 {a0 a1 : Int} (h0 : a0 ≤ 3) (h1 : a1 < a0) : a1 + 1 < 2147483648 := by omega
theorem om_2e953c3d {a0 a1 a2 a3 : Int} (h0 : a0 = a1 + a2) (h1 : a1 ≤ 10) (h2 : a2 ≤ 8) (h3 : a0 = a3) : 27 + a3 < 2147483648 := by omega
theorem om_2ef89407 {a0 a1 a2 a3 a4 : Int} (h0 : a0 ≤ 996) (h1 : a1 ≤ 4) (h2 : a2 ≤ a0 + 1 * a3) (h3 : a1 = a4) (h4 : a3 < a4) : a2 ≤ 999 := by omega
theorem om_2f02dee4 {a0 a1 : Int} (h0 : a0 = 1) (h1 : a0 ≤ a1) (h2 : a1 = 0) : False := by omega
theorem om_2f1aff57 {a0 a1 a2 a3 : Int} (h0 : a0 ≤ 900) (h1 : a1 ≤ a2) (h2 : a2 < a0) (h3 : a3 = a1 + 1) : a3 ≤ 900 := by omega
theorem om_2f78c106 {a0 a1 : Int} (h0 : a0 ≤ 4) (h1 : a1 ≤ a0) : a1 - 1 < 2147483648 := by omega
theorem om_3052bbb6 {a0 a1 a2 a3 : Int} (h0 : a0 ≤ 18) (h1 : a0 = a1) (h2 : a2 < a1) (h3 : a3 = a2 + 1) : a3 ≤ 2147483647 := by omega
theorem om_309dbbdf (n9 : Nat) : 8 + (4 + 11) + (0) ≤ 10 + 30 * (n9 + 1) := by omega
theorem om_30d40e72 {a0 a1 : Int} (h0 : (-1) * a0 + 1 ≤ 0) (h1 : a0 ≤ a1) (h2 : a1 = 0) : False := by omega
theorem om_311d1202 {a0 a1 : Int} (h0 : a0 < a1) (h1 : a1 ≤ 18) : a0 + 72 < ((90 : Nat) : Int) := by omega
theorem om_31ee0816 {a0 : Int} (h0 : a0 ≤ 17) : 4 * a0 < ((72 : Nat) : Int) := by omega
theorem om_32108caa {a0 : Int} (h0 : 1 ≤ a0) : -2147483648 ≤ a0 - 1 := by omega
theorem om_32850922 {a0 : Int} (h0 : a0 < 10) : a0 + 1 < 2147483648 := by omega
theorem om_3299cc9d {a0 : Int} (h0 : a0 ≠ 0) (h1 : a0 = 0) (h2 : 0 ≤ a0) : False := by omega
theorem om_32f1c3e7 {NV0 NV1 : Nat} {a0 : Int} (h0 : (NV0 : Int) = a0) (h1 : (NV1 : Int) = a0 + 9) : 9 + NV0 = NV1 := by omega
theorem om_332488e6 {a0 a1 a2 : Int} (h0 : a0 = a1) (h1 : 0 ≤ a0) (h2 : a2 = 0) : a2 ≤ a1 := by omega
theorem om_333769e3 {a0 a1 a2 a3 : Int} (h0 : a0 = a1) (h1 : a0 ≤ 4) (h2 : a2 ≤ a1) (h3 : a3 < a1) : a2 + a3 < 2147483648 := by omega
theorem om_33376cd8 {a0 a1 : Int} (h0 : a0 ≤ 16) (h1 : a1 < a0) : 0 < 2147483647 - a1 := by omega
theorem om_33997cc5 {a0 a1 : Int} (h0 : 2 ≤ a0) (h1 : a1 = 0) : a1 ≤ a0 := by omega
theorem om_33b66284 {a0 : Int} (h0 : a0 ≤ 15) : a0 + 1 < 2147483648 := by omega
theorem om_341146a3 {a0 : Int} (h0 : -2147483648 ≤ a0) : (-2147483648) ≤ a0 := by omega
theorem om_343060c7 {a0 a1 : Int} (h0 : a0 < a1) (h1 : a1 ≤ 18) : 4 * a0 + 1 < ((90 : Nat) : Int) := by omega
theorem om_347b8f70 {a0 : Int} (h0 : a0 = 0) : a0 ≤ 20 := by omega
theorem om_349eab4e {a0 a1 : Int} (h0 : a0 ≤ 4) (h1 : a1 < a0) : 0 < 2147483647 - a1 := by omega
theorem om_34e445bb {a0 a1 a2 : Int} (h0 : a0 < a1) (h1 : a1 ≤ 18) (h2 : a2 ≤ 4) : 4 * a0 + a2 + 45 < ((287 : Nat) : Int) := by omega
theorem om_34f60646 {a0 : Int} (h0 : a0 = 90) : 0 ≤ a0 := by omega
theorem om_3615877d {a0 : Int} (h0 : a0 ≤ 18) : 8 * a0 < 2147483648 := by omega
theorem om_36428d7e {a0 a1 : Int} (h0 : 0 ≤ a0) (h1 : a0 = a1) : 0 ≤ 2 * a1 + 118 := by omega
theorem om_36ac28fa {a0 : Int} (h0 : a0 + (-3) ≤ 0) : 0 < 4 - a0 := by omega
theorem om_372bb831 {a0 a1 a2 : Int} (h0 : a0 ≤ 18) (h1 : a0 = a1) (h2 : a2 < a1) : a2 + 72 < ((90 : Nat) : Int) := by omega
theorem om_373b7b59 {a0 : Int} (h0 : 0 ≤ a0) : -2147483648 ≤ 90 * (a0 + (-1)) := by omega
theorem om_37ea73a4 {a0 : Int} (h0 : a0 ≤ 996) : a0 + 1 < 2147483648 := by omega
theorem om_387097be {a0 a1 a2 a3 a4 : Int} (h0 : a0 ≤ 2) (h1 : a1 = a0) (h2 : a2 = a1) (h3 : a3 = a2) (h4 : a3 = a4) : a4 + 1 < 2147483648 := by omega
theorem om_3873ea92 {a0 : Int} (h0 : a0 = 1) (h1 : a0 = 3) : False := by omega
theorem om_38d8cad5 {a0 a1 a2 : Int} (h0 : 0 ≤ a0) (h1 : a0 ≤ a1) (h2 : a2 = a1 + 1) : 0 ≤ a2 := by omega
theorem om_39e10d72 {a0 a1 a2 a3 : Int} (h0 : 1 ≤ a0) (h1 : a1 ≤ a2) (h2 : a0 = a3) (h3 : a3 ≤ a1) : 1 ≤ a2 := by omega
theorem om_39e69b69 {a0 a1 a2 : Int} (h0 : a0 < 18) (h1 : a1 ≤ 4) (h2 : a2 < a1) : (4 * a0) + a2 < 2147483648 := by omega
theorem om_3a80e809 {a0 a1 a2 a3 a4 : Int} (h0 : a0 ≤ a1 + 1 * a2) (h1 : a3 ≤ a0 + 1) (h2 : a4 = a2 + 1) : a3 ≤ a1 + 1 * a4 := by omega
theorem om_3b07fe9e {a0 a1 : Int} (h0 : 1 ≤ a0) (h1 : a1 = a0 + 1) : 1 ≤ a1 := by omega
theorem om_3b68d876 {NV0 : Nat} {a0 a1 : Int} (h0 : (NV0 : Int) = a0 + 27) (h1 : a0 < a1) (h2 : a1 ≤ 18) : NV0 < 45 := by omega
theorem om_3b9d1022 {a0 a1 : Int} (h0 : a0 = 0) (h1 : a1 = 90) : a0 + a1 ≤ 90 := by omega
theorem om_3ba77439 {NV0 NV1 NV2 : Nat} {a0 a1 : Int} (h0 : (NV0 : Int) = a0) (h1 : (NV1 : Int) = a1) (h2 : (NV2 : Int) = 4 * a0 + a1 + 45) : 45 + 4 * NV0 + NV1 = NV2 := by omega
theorem om_3bc63eac {a0 : Int} (h0 : a0 = 0) : a0 ≤ 10 := by omega
theorem om_3c8c485b {a0 a1 : Int} (h0 : a0 ≠ 3) (h1 : a1 = a0) (h2 : a1 ≤ 3) : a0 + (-2) ≤ 0 := by omega
theorem om_3cfb47e5 {a0 : Int} (h0 : (-1) ≤ a0) : (-2) ≤ a0 := by omega
theorem om_3d753531 {a0 a1 : Int} (h0 : a0 ≤ 17) (h1 : a0 = a1) : 9 + a1 < 2147483648 := by omega
theorem om_3da4737a {a0 : Int} (h0 : a0 = 0) : -2147483648 ≤ a0 + 1 := by omega
theorem om_3e1ef0cd (n9 : Nat) : 8 + (8 + 11) + (60 * n9 + 170) ≤ 60 * (n9 + 1) + 170 := by omega
theorem om_3fede16e {a0 : Int} (h0 : a0 = 2) : a0 ≤ 8 := by omega
theorem om_3ff8332a {a0 a1 : Int} (h0 : a0 ≠ 0) (h1 : 0 ≤ a1) (h2 : a1 = a0) : (-1) * a0 + 1 ≤ 0 := by omega
theorem om_400ea2f3 {a0 a1 a2 a3 : Int} (h0 : a0 = a1 + a2) (h1 : a1 ≤ 10) (h2 : a2 ≤ 8) (h3 : a0 = a3) : a3 + 27 < ((287 : Nat) : Int) := by omega
theorem om_403c4a76 {NV0 : Nat} {a0 a1 : Int} (h0 : (NV0 : Int) = a0 + 27) (h1 : a1 ≤ 18) (h2 : a0 < a1) : NV0 < 45 := by omega
theorem om_40732203 {a0 : Int} (h0 : a0 ≤ 744) : a0 + 1 < 2147483648 := by omega
theorem om_40a1f881 {a0 a1 : Int} (h0 : a0 ≤ 18) (h1 : a1 ≤ a0) : 9 + a1 < 2147483648 := by omega
theorem om_40b90e64 {a0 a1 a2 : Int} (h0 : a0 ≤ 4) (h1 : a0 = a1) (h2 : a2 < a1) : a2 < ((4 : Nat) : Int) := by omega
theorem om_40b9b7fe {a0 a1 a2 : Int} (h0 : -1 ≤ a0) (h1 : a0 < a1) (h2 : a1 = a2) : -2147483648 ≤ 72 + a2 := by omega
theorem om_411a6de6 {a0 a1 a2 a3 a4 : Int} (h0 : a0 ≤ 984) (h1 : a1 ≤ 4) (h2 : a2 ≤ a0 + 4 * a3) (h3 : a1 = a4) (h4 : a3 < a4) : a2 ≤ 996 := by omega
theorem om_4170d8d6 {a0 : Int} (h0 : a0 = 99) : 0 ≤ a0 := by omega
theorem om_41800d9e {a0 a1 a2 a3 : Int} (h0 : a0 ≤ a1 + 1 * a2) (h1 : a3 = a2 + 1) : a0 ≤ a1 + 1 * a3 := by omega
theorem om_41b2db40 {a0 : Int} (h0 : a0 ≤ 4) : 0 < 2147483647 - a0 := by omega
theorem om_41d8dd7f {a0 : Int} (h0 : a0 = 1) : a0 ≤ 16 := by omega
theorem om_41e8b5f2 {a0 a1 a2 : Int} (h0 : -1 ≤ a0) (h1 : a0 < a1) (h2 : a1 = a2) : -2147483648 ≤ 27 + a2 := by omega
theorem om_420abfc6 {a0 a1 : Int} (h0 : a0 < a1) (h1 : a1 ≤ 18) : a0 + 27 < ((287 : Nat) : Int) := by omega
theorem om_4293847a {a0 : Int} (h0 : a0 = 0) : a0 ≤ 744 := by omega
theorem om_42ed3fc5 {a0 a1 a2 a3 : Int} (h0 : a0 ≤ 18) (h1 : a0 = a1) (h2 : a2 < a1) (h3 : a3 = a2 + 1) : a3 ≤ 18 := by omega
theorem om_434bffb5 {a0 : Int} (h0 : a0 ≤ 5) : a0 + 1 < 2147483648 := by omega
theorem om_439ddea0 (n9 : Nat) : 8 + (4 + 11) + (0) ≤ 60 * (n9 + 1) + 170 := by omega
theorem om_441f7b60 {a0 a1 : Int} (h0 : a0 < 3) (h1 : a1 = a0 + 1) : a1 ≤ 3 := by omega
theorem om_44c915d2 {NV0 : Nat} {a0 a1 : Int} (h0 : (NV0 : Int) = 2 * a0 + 118) (h1 : 0 ≤ a1) (h2 : a1 = a0) : 3 < NV0 := by omega
theorem om_458b6fe0 {a0 a1 : Int} (h0 : a0 = (4 * a1) + 3) : a0 = 4 * a1 + 3 := by omega
theorem om_45c818c7 {a0 : Int} (h0 : a0 = 0) : a0 ≤ 13 := by omega
theorem om_45dc62a4 {a0 a1 a2 a3 a4 a5 : Int} (h0 : a0 = a1 + (a2 - a3)) (h1 : a4 = a0 + 1) (h2 : a5 = a2 + 1) : a4 = a1 + (a5 - a3) := by omega
theorem om_46069b49 (n9 : Nat) : 8 + (9 + 11) + (60 * n9 + 136) ≤ 60 * (n9 + 1) + 110 := by omega
theorem om_462cc4af {NV0 : Nat} {a0 : Int} (h0 : (NV0 : Int) = a0 + 9) (h1 : 0 ≤ a0) : 9 ≤ NV0 := by omega
theorem om_467ad9f8 {a0 a1 : Int} (h0 : 0 ≤ a0) (h1 : 0 ≤ a1) : -2147483648 ≤ (8 * a0 + 143) + a1 := by omega
theorem om_46d04684 {a0 : Int} (h0 : a0 ≤ 1000000000) : a0 + 1 < 2147483648 := by omega
theorem om_47296397 {a0 : Int} (h0 : 15 ≤ a0) : -2147483648 ≤ a0 + 1 := by omega
theorem om_47392b63 {a0 a1 a2 a3 a4 : Int} (h0 : a0 + a1 ≤ 1000000000) (h1 : a1 = 4 * a2 + 4) (h2 : a3 ≤ a0 + a4) (h3 : a4 + a2 ≤ 4 * a2) : a3 + a2 ≤ 1000000000 := by omega
theorem om_47773c6c {a0 : Int} (h0 : a0 ≤ 1350) : a0 + 90 < 2147483648 := by omega
theorem om_48156c84 {a0 : Int} (h0 : a0 = 59) (h1 : a0 = 0) : False := by omega
theorem om_48fb4260 {a0 a1 : Int} (h0 : a0 < a1) (h1 : a1 ≤ 18) : (4 * a0) + 2 < 2147483648 := by omega
theorem om_494348b2 {a0 : Int} (h0 : a0 ≤ 3) : a0 + 2 < 2147483648 := by omega
theorem om_494effe0 {a0 a1 : Int} (h0 : 0 ≤ a0) (h1 : a0 = a1) : 0 ≤ 8 * a1 + 143 := by omega
theorem om_495fbfcb {a0 : Int} (h0 : a0 < 3) : a0 < ((3 : Nat) : Int) := by omega
theorem om_4961d762 {a0 a1 a2 : Int} (h0 : a0 ≤ 4) (h1 : a1 ≤ a0) (h2 : a2 < a1 + (-1)) : a2 < ((4 : Nat) : Int) := by omega
theorem om_497b4f92 {a0 a1 : Int} (h0 : a0 < 18) (h1 : a1 = a0 + 1) : a1 ≤ 18 := by omega
theorem om_49eb7f00 {a0 a1 : Int} (h0 : a0 ≤ 4) (h1 : a0 = a1) : 117 + (2 * a1) < 2147483648 := by omega
theorem om_49eecdc2 {a0 : Int} (h0 : a0 < 20) : 0 < 20 - a0 := by omega
theorem om_49fe2b1f {a0 a1 : Int} (h0 : a0 < a1) (h1 : a1 ≤ 18) : (4 * a0) + 1 < 2147483648 := by omega
theorem om_4ad7ab72 {a0 : Int} (h0 : a0 < 90) : a0 < ((90 : Nat) : Int) := by omega
theorem om_4b156bce {a0 a1 a2 : Int} (h0 : a0 ≤ 16) (h1 : a1 < a0) (h2 : a2 = a1 + 1) : a2 ≤ 2147483647 := by omega
theorem om_4c66930a {a0 : Int} (h0 : a0 ≠ 1) (h1 : a0 = 1) : False := by omega
theorem om_4cab8d2e {a0 a1 : Int} (h0 : a0 ≤ 17) (h1 : a0 = a1) : a1 + 125 < ((287 : Nat) : Int) := by omega
theorem om_4d313e7b {NV0 : Nat} {a0 a1 a2 : Int} (h0 : (NV0 : Int) = a0 + 27) (h1 : -1 ≤ a1) (h2 : a1 < a2) (h3 : a2 = a0) : 8 < NV0 := by omega
theorem om_4d5eb4d7 {a0 a1 a2 : Int} (h0 : 0 ≤ a0) (h1 : 0 ≤ a1) (h2 : 0 ≤ a2) : 0 ≤ 4 * a0 + a1 + a2 := by omega
theorem om_4de36627 {NV0 NV1 NV2 : Nat} {a0 a1 : Int} (h0 : (NV0 : Int) = a0) (h1 : (NV1 : Int) = a1) (h2 : (NV2 : Int) = 4 * a0 + a1) : 4 * NV0 + NV1 = NV2 := by omega
theorem om_4e38c298 {a0 a1 : Int} (h0 : a0 ≤ 18) (h1 : a1 < a0) : a1 + 72 < ((90 : Nat) : Int) := by omega
theorem om_4e4fce7e {a0 : Int} (h0 : 0 ≤ a0) : -2147483648 ≤ a0 + 1 := by omega
theorem om_4eae0d50 {a0 a1 a2 a3 a4 : Int} (h0 : a0 < a1) (h1 : a1 ≤ 18) (h2 : a2 ≤ 4) (h3 : a2 = a3) (h4 : a4 < a3) : (4 * a0 + 45) + a4 < 2147483648 := by omega
theorem om_4edf14e7 {a0 a1 : Int} (h0 : 0 ≤ a0) (h1 : a0 = a1) : -2147483648 ≤ 143 + (8 * a1) := by omega
theorem om_4f113ef1 {a0 a1 a2 a3 a4 : Int} (h0 : a0 + 4 * a1 + 4 ≤ 1000000000) (h1 : a2 ≤ a0 + a3) (h2 : a3 + a1 ≤ 4 * a1) (h3 : a4 ≤ a2 + a1) : a4 + 4 ≤ 1000000000 := by omega
theorem om_4f58e249 {a0 a1 a2 : Int} (h0 : a0 ≤ 8) (h1 : a1 < 18) (h2 : a2 < a0) : 8 * a1 + a2 + 143 < ((287 : Nat) : Int) := by omega
theorem om_4f9ff1fb {a0 : Int} (h0 : a0 < 1000) : a0 + 1 < 2147483648 := by omega
theorem om_500c1a9b {a0 : Int} (h0 : 0 ≤ a0) : -2147483648 ≤ 45 + (4 * a0) := by omega
theorem om_50af1673 {a0 : Int} (h0 : a0 < 4) : 0 < 2147483647 - a0 := by omega
theorem om_50b52c69 {a0 a1 a2 : Int} (h0 : a0 < a1) (h1 : a1 ≤ 18) (h2 : a2 ≤ 4) : 4 * a0 + a2 < ((90 : Nat) : Int) := by omega
theorem om_50cc3547 {a0 a1 : Int} (h0 : a0 < 1350) (h1 : a1 = a0 + 1) : a1 ≤ 1350 := by omega
theorem om_51643139 {a0 : Int} (h0 : a0 = 2) (h1 : a0 = 3) : False := by omega
theorem om_5185113d {a0 : Int} (h0 : 0 ≤ a0) (h1 : a0 + 1 ≤ 0) : False := by omega
theorem om_525c5d3e {a0 a1 : Int} (h0 : a0 ≤ 18) (h1 : a1 < a0) : a1 ≤ 17 := by omega
theorem om_530ef2ed {a0 a1 : Int} (h0 : 0 ≤ a0) (h1 : a0 = a1) : -2147483648 ≤ 117 + (2 * a1) := by omega
theorem om_535548d7 {a0 a1 a2 a3 : Int} (h0 : a0 ≤ a1 + 64 * a2) (h1 : a3 = a2 + 1) : a0 ≤ a1 + 64 * a3 := by omega
theorem om_537cafd1 {a0 a1 a2 : Int} (h0 : a0 < 18) (h1 : a1 ≤ 4) (h2 : a2 < a1) : 4 * a0 + a2 < ((72 : Nat) : Int) := by omega
theorem om_53888998 {a0 : Int} (h0 : a0 ≤ 4) : 2 * a0 + 118 < ((287 : Nat) : Int) := by omega
theorem om_53efa0b0 {a0 a1 a2 : Int} (h0 : a0 + 20 ≤ 900) (h1 : a1 = a0 + a2) (h2 : a2 < 20) : a1 < ((900 : Nat) : Int) := by omega
theorem om_543fbe6f {a0 a1 : Int} (h0 : a0 ≤ 3) (h1 : a1 < a0) : a1 < ((3 : Nat) : Int) := by omega
theorem om_5483085b {a0 a1 a2 a3 a4 : Int} (h0 : 0 ≤ a0) (h1 : a1 = a0) (h2 : a2 = a1) (h3 : a3 = a2) (h4 : a3 = a4) : -2147483648 ≤ a4 + 0 := by omega
theorem om_54bc71e0 {a0 : Int} (h0 : a0 < 512) : a0 < ((512 : Nat) : Int) := by omega
theorem om_54de693e {a0 a1 : Int} (h0 : a0 ≤ 900) (h1 : a1 < a0) : a1 < ((900 : Nat) : Int) := by omega
theorem om_54ed7536 {a0 a1 : Int} (h0 : 0 ≤ a0) (h1 : a0 + a1 ≤ 100) : 27 + a1 < 2147483648 := by omega
theorem om_55679156 {a0 a1 : Int} (h0 : a0 ≤ a1) (h1 : a0 = 0) : -2147483648 ≤ a1 + 1 := by omega
theorem om_563b8554 {a0 a1 a2 a3 : Int} (h0 : -1 ≤ a0) (h1 : a0 < a1) (h2 : a1 = a2) (h3 : 0 ≤ a3) : -2147483648 ≤ (4 * a2 + 45) + a3 := by omega
theorem om_56b74365 {a0 : Int} (h0 : 0 ≤ a0) : -2147483648 ≤ 4 * a0 := by omega
theorem om_56f574e0 {a0 a1 a2 : Int} (h0 : a0 ≤ 900) (h1 : a1 < a0) (h2 : a2 = a1 + 1) : a2 ≤ 900 := by omega
theorem om_5716cb89 {a0 : Int} (h0 : a0 ≤ 4) : (2 * a0 + 117) + 1 < 2147483648 := by omega
theorem om_573b7ec0 {a0 a1 a2 : Int} (h0 : 0 ≤ a0) (h1 : a1 ≤ a2) : -2147483648 ≤ (4 * a0 + a2) - a1 := by omega
theorem om_575634be {a0 : Int} (h0 : a0 ≤ 20) : a0 + 1 < 2147483648 := by omega
theorem om_5766c6b3 {a0 a1 a2 : Int} (h0 : a0 ≤ a1) (h1 : a2 < a0) (h2 : a1 = 9) : 0 < 2147483647 - a2 := by omega
theorem om_57c1b9c1 {a0 : Int} (h0 : 0 ≤ a0) : -2147483648 ≤ (75 * a0) + 74 := by omega
theorem om_57ce868b {NV0 : Nat} {a0 a1 : Int} (h0 : (NV0 : Int) = a0) (h1 : a0 < a1) (h2 : a1 ≤ 18) : 9 + NV0 < 27 := by omega
theorem om_58a75ecc {a0 a1 : Int} (h0 : a0 ≤ 880) (h1 : a1 = a0 + 4) : a1 ≤ 896 := by omega
theorem om_58c227f4 (n9 : Nat) : 60 ≤ 60 * n9 + 136 := by omega
theorem om_58da8a1c {NV0 : Nat} {a0 a1 a2 a3 : Int} (h0 : (NV0 : Int) = 4 * a0 + a1 + 45) (h1 : -1 ≤ a2) (h2 : a2 < a3) (h3 : a3 = a0) (h4 : 0 ≤ a1) : 7 < NV0 := by omega
theorem om_58f3ac6d {a0 : Int} (h0 : a0 = 59) (h1 : a0 = 2) : False := by omega
theorem om_59039de0 {a0 a1 : Int} (h0 : a0 = a1 + 1) : 90 - a0 < 90 - a1 := by omega
theorem om_5922c878 {a0 a1 : Int} (h0 : a0 ≤ 4) (h1 : a0 = a1) : a1 + 1 < 2147483648 := by omega
theorem om_59234406 {a0 : Int} (h0 : a0 = 0) : a0 ≤ 9 * a0 := by omega
theorem om_59b0c24f {a0 a1 a2 a3 : Int} (h0 : 0 ≤ a0) (h1 : a1 = 4 * a0 + 1) (h2 : a2 ≤ a3 + 1) : a2 ≤ a3 + a1 := by omega
theorem om_5a8b34c8 {a0 a1 a2 : Int} (h0 : a0 ≤ 17) (h1 : a1 ≤ 3) (h2 : a2 < a1) : 4 * a0 + a2 < ((72 : Nat) : Int) := by omega
theorem om_5a94aa53 {a0 : Int} (h0 : a0 < 2147483648) : a0 ≤ 2147483647 := by omega
theorem om_5b028cd8 (n9 : Nat) : 8 + (9 + 11) + (10 + 28 * n9) ≤ 10 + 28 * (n9 + 1) := by omega
theorem om_5b29539f {a0 a1 a2 a3 : Int} (h0 : a0 ≤ a1 + a2) (h1 : a2 ≤ 4 * a3) : a0 ≤ a1 + 4 * a3 := by omega
theorem om_5bc8da9f {a0 a1 : Int} (h0 : a0 ≤ 18) (h1 : a1 < a0) : a1 + 27 < ((287 : Nat) : Int) := by omega
theorem om_5c2b6940 (n9 : Nat) : 8 + (6 + 11) + (23) ≤ 60 * n9 + 136 := by omega
theorem om_5c6bfac3 {a0 a1 a2 : Int} (h0 : a0 < 2147483648) (h1 : a1 < a0) (h2 : a2 = a1 + 1) : a2 ≤ 2147483647 := by omega
theorem om_5c6c3440 {a0 a1 a2 : Int} (h0 : a0 = 1) (h1 : a0 ≤ a1) (h2 : a1 ≤ a2) (h3 : a2 = 0) : False := by omega
theorem om_5d0caf0f {a0 a1 a2 : Int} (h0 : a0 = (4 * a1) + a2) : a0 = 4 * a1 + a2 := by omega
theorem om_5d455de1 {a0 a1 : Int} (h0 : 0 ≤ a0) (h1 : (-1) ≤ a1) : -2147483648 ≤ (4 * a0) + a1 := by omega
theorem om_5da1924c {a0 a1 a2 a3 : Int} (h0 : a0 = a1 + a2) (h1 : a1 ≤ 10) (h2 : a2 ≤ 8) (h3 : a0 = a3) : 45 + (4 * a3) < 2147483648 := by omega
theorem om_5dc4d498 {a0 : Int} (h0 : a0 ≤ 16) : 90 * (a0 + (-1)) < 2147483648 := by omega
theorem om_5de47f5c {NV0 : Nat} {a0 a1 : Int} (h0 : (NV0 : Int) = a0 + 9) (h1 : a1 ≤ 18) (h2 : a0 < a1) : NV0 < 27 := by omega
theorem om_5e0f5355 {a0 a1 a2 a3 : Int} (h0 : a0 ≤ 18) (h1 : a1 = a2) (h2 : a1 ≤ 4) (h3 : a3 ≤ a2) : 4 * a0 + a3 < ((90 : Nat) : Int) := by omega
theorem om_5e41bb97 {a0 : Int} (h0 : a0 < 2) : 0 < 3 - a0 := by omega
theorem om_5e511aa9 {a0 a1 : Int} (h0 : a0 ≤ 18) (h1 : a1 ≤ a0) : a1 + 9 < ((287 : Nat) : Int) := by omega
theorem om_5edc6190 {a0 a1 : Int} (h0 : a0 = a1) (h1 : a1 = 3) : a0 = 3 := by omega
theorem om_5ef458c1 {a0 a1 a2 : Int} (h0 : a0 < a1) (h1 : a1 ≤ 4) (h2 : a2 ≤ a0) : a2 + (-1) < 2147483648 := by omega
theorem om_5f3e4666 {a0 a1 a2 a3 : Int} (h0 : 0 ≤ a0) (h1 : a1 = a0) (h2 : a2 = a1) (h3 : a2 = a3) : -2147483648 ≤ a3 + 1 := by omega
theorem om_5f9db36c {a0 a1 a2 : Int} (h0 : a0 ≤ 18) (h1 : a0 = a1) (h2 : a2 < a1) : 0 < 2147483647 - a2 := by omega
theorem om_5fd44534 {a0 a1 : Int}  : a0 = a0 + (a1 - a1) := by omega
theorem om_6005669c {a0 a1 a2 : Int} (h0 : a0 + a1 ≤ 8) (h1 : a2 < a1) : a0 + a2 < ((8 : Nat) : Int) := by omega
theorem om_603cd493 (n9 : Nat) : (0) + 1 ≤ 2 * (n9 + 1) + 4 := by omega
theorem om_60c3b8c8 {a0 a1 a2 : Int} (h0 : a0 < a1) (h1 : a0 = a2) (h2 : 0 ≤ a2) : 1 ≤ a1 := by omega
theorem om_60db842a {a0 : Int} (h0 : a0 ≤ 17) : a0 + 9 < ((287 : Nat) : Int) := by omega
theorem om_60e51bf8 {a0 : Int} (h0 : a0 = 24) : -8 ≤ a0 := by omega
theorem om_611acbdf {a0 a1 a2 a3 : Int} (h0 : a0 ≤ 17) (h1 : a1 ≤ 4) (h2 : a2 < a1) (h3 : a3 < a1) : 4 * a0 + (-1) * a1 + a2 + a3 < ((72 : Nat) : Int) := by omega
theorem om_6178c2cd {a0 : Int} (h0 : a0 ≤ 18) : a0 - 1 < 2147483648 := by omega
theorem om_62246ba3 {NV0 : Nat} {a0 a1 a2 : Int} (h0 : (NV0 : Int) = a0 + 27) (h1 : -1 ≤ a1) (h2 : a1 < a2) (h3 : a2 = a0) : 7 < NV0 := by omega
theorem om_622f2a87 {a0 a1 a2 a3 : Int} (h0 : a0 ≤ a1) (h1 : a1 ≤ a2) (h2 : a2 ≤ a3) : a0 ≤ a3 := by omega
theorem om_625b1eca {a0 a1 a2 : Int} (h0 : -1 ≤ a0) (h1 : a0 < a1) (h2 : a1 = a2) : 0 ≤ a2 + 72 := by omega
theorem om_626b9a18 {a0 : Int} (h0 : a0 < 4) : 8 * a0 < 2147483648 := by omega
theorem om_62ac5738 {a0 a1 a2 a3 a4 a5 : Int} (h0 : a0 ≤ 18) (h1 : a0 = a1) (h2 : a2 < a1) (h3 : a3 = a4) (h4 : a3 ≤ 4) (h5 : a5 < a4) : 4 * a2 + a5 < ((90 : Nat) : Int) := by omega
theorem om_62adc1dd {a0 : Int} (h0 : a0 ≠ 0) (h1 : a0 = 0) : False := by omega
theorem om_62d6c16a {a0 a1 a2 : Int} (h0 : a0 ≤ 4) (h1 : a1 ≤ a0) (h2 : a2 = a1 + 1) : a2 ≤ 5 := by omega
theorem om_62d8943c {a0 a1 : Int} (h0 : a0 = a1 + 1) : 900 - a0 < 900 - a1 := by omega
theorem om_63106487 {a0 a1 : Int} (h0 : a0 ≤ 4) (h1 : a0 = a1) : (2 * a1 + 117) + 1 < 2147483648 := by omega
theorem om_634dd1bd {NV0 NV1 : Nat} {a0 : Int} (h0 : (NV0 : Int) = a0) (h1 : (NV1 : Int) = 2 * a0 + 118) : 118 + 2 * NV0 = NV1 := by omega
theorem om_63cf9d31 {a0 a1 : Int} (h0 : a0 < 20) (h1 : a1 = a0 + 1) : a1 ≤ 20 := by omega
theorem om_6429e25c {a0 a1 : Int} (h0 : 0 ≤ a0) (h1 : a0 = a1) : 0 ≤ a1 := by omega
theorem om_644b432c {a0 a1 a2 : Int} (h0 : a0 = a1) (h1 : a2 < a1) : a2 < a0 := by omega
theorem om_65488096 {a0 a1 a2 a3 a4 : Int} (h0 : a0 = a1 + a2) (h1 : a1 ≤ 10) (h2 : a2 ≤ 8) (h3 : a0 = a3) (h4 : a4 ≤ 4) : (4 * a3) + a4 < 2147483648 := by omega
theorem om_656ddbff {a0 a1 : Int} (h0 : a0 ≤ 18) (h1 : a1 ≤ a0) : a1 + 1 < 2147483648 := by omega
theorem om_6583236d {a0 : Int} (h0 : a0 ≤ 1350) : a0 < ((1440 : Nat) : Int) := by omega
theorem om_65af5c9c {a0 a1 : Int} (h0 : a0 ≤ 17) (h1 : a0 = a1) : 125 + a1 < 2147483648 := by omega
theorem om_66174240 {a0 a1 : Int} (h0 : a0 ≤ 17) (h1 : a1 ≤ 3) : 4 * a0 + a1 < ((72 : Nat) : Int) := by omega
theorem om_66bb8bce {a0 a1 a2 a3 : Int} (h0 : a0 ≤ 17) (h1 : a1 ≤ 4) (h2 : a2 + a3 < a1) : 4 * a0 + a2 + a3 < ((72 : Nat) : Int) := by omega
theorem om_67044d60 {a0 a1 : Int} (h0 : a0 = 117 + (2 * a1)) : a0 = 2 * a1 + 117 := by omega
theorem om_67b34c44 {a0 a1 a2 a3 a4 : Int} (h0 : a0 ≤ a1) (h1 : a1 ≤ a2) (h2 : a2 ≤ a3) (h3 : a3 + 1 ≤ a4) : a0 + 1 ≤ a4 := by omega
theorem om_67e84112 {a0 a1 a2 : Int} (h0 : a0 < 4) (h1 : a0 = a1) (h2 : a2 = a1 + 1) : a2 ≤ 4 := by omega
theorem om_6870ae9f {a0 a1 : Int} (h0 : a0 = 0) : a1 ≤ a1 + 64 * a0 := by omega
theorem om_6872dcca {a0 : Int} (h0 : 1 ≤ a0) : -2147483648 ≤ a0 + 1 := by omega
theorem om_68b575cb {a0 : Int} (h0 : a0 < 900) : a0 + 1 < 2147483648 := by omega
theorem om_690893a7 (n9 : Nat) : 8 + (7 + 11) + (60 * (n9 + 1) + 110) ≤ 60 * (n9 + 1) + 170 := by omega
theorem om_69475dac {a0 a1 a2 a3 : Int} (h0 : a0 ≤ a1 + 4 * a2) (h1 : a3 = a2 + 1) : a0 ≤ a1 + 4 * a3 := by omega
theorem om_6980acd7 {a0 a1 a2 a3 : Int} (h0 : a0 = (a1 + a2) - a3) : a0 = (-1) * a3 + a1 + a2 := by omega
theorem om_6ad8cf7f {a0 a1 : Int} (h0 : a0 = a1 + 1) : a0 ≤ a1 + 1 := by omega
theorem om_6b2d4e71 {a0 a1 a2 a3 a4 : Int} (h0 : a0 < a1) (h1 : a2 < a3) (h2 : a1 ≤ 18) (h3 : a3 ≤ 4) (h4 : a4 ≤ a2) : 4 * a0 + a4 + (-1) < ((90 : Nat) : Int) := by omega
theorem om_6b5cb8c7 (n9 : Nat) : (1) + 1 ≤ 2 * n9 + 5 := by omega
theorem om_6bb57472 {a0 : Int} (h0 : 0 ≤ a0) : -2147483648 ≤ 117 + (2 * a0) := by omega
theorem om_6be7ac4c (n9 : Nat) : (20 + n9) + 1 ≤ 20 + (n9 + 1) := by omega
theorem om_6c1783e4 {a0 : Int} (h0 : a0 = 10) : a0 ≤ 10 := by omega
theorem om_6c263690 {NV0 : Nat} {a0 a1 : Int} (h0 : (NV0 : Int) = a0) (h1 : a0 < a1) (h2 : a1 ≤ 18) : 27 + NV0 < 45 := by omega
theorem om_6c44078c (n9 : Nat) : 8 + (2 + 11) + (0) ≤ 60 * n9 + 136 := by omega
theorem om_6c480895 {a0 a1 : Int} (h0 : a0 ≤ a1) (h1 : a1 = 0) : a0 ≤ 0 := by omega
theorem om_6c48219a {a0 a1 : Int} (h0 : a0 = 27 + a1) : a0 = a1 + 27 := by omega
theorem om_6cb7487c (n9 : Nat) : 8 + (13 + 11) + (60 * n9 + 136) ≤ 60 * (n9 + 1) + 110 := by omega
theorem om_6cf0f2e4 {NV0 NV1 : Nat} {a0 : Int} (h0 : (NV0 : Int) = a0) (h1 : (NV1 : Int) = 4 * a0) : 4 * NV0 = NV1 := by omega
theorem om_6d29852c {a0 a1 : Int} (h0 : a0 < 18) (h1 : a1 < 4) : (4 * a0) + a1 < 2147483648 := by omega
theorem om_6d498008 {a0 a1 a2 : Int} (h0 : a0 = a1) (h1 : a2 < a1) : 0 < a0 - a2 := by omega
theorem om_6eb7c803 {a0 : Int} (h0 : a0 = 3) : a0 ≤ 3 := by omega
theorem om_6f2453df {a0 a1 : Int} (h0 : a0 ≤ 18) (h1 : a1 < a0) : 72 + a1 < 2147483648 := by omega
theorem om_6f4a0172 {a0 : Int} (h0 : a0 < 287) : a0 < ((287 : Nat) : Int) := by omega
theorem om_6facabaa {a0 a1 a2 a3 a4 a5 : Int} (h0 : a0 ≤ 18) (h1 : a0 = a1) (h2 : a2 < a1) (h3 : a3 = a4) (h4 : a3 ≤ 4) (h5 : a5 < a4) : (4 * a2) + a5 < 2147483648 := by omega
theorem om_6fef8941 {a0 a1 a2 a3 a4 : Int} (h0 : a0 = (4 * a1) + ((-1) * a2 + a3 + a4)) : a0 = 4 * a1 + (-1) * a2 + a3 + a4 := by omega
theorem om_702bf7ac {a0 a1 : Int} (h0 : a0 = 45 + (4 * a1)) : a0 = 4 * a1 + 45 := by omega
theorem om_70783806 (n9 : Nat) : (1 + n9) + 1 ≤ 1 + (n9 + 1) := by omega
theorem om_70788035 {a0 a1 : Int} (h0 : 0 ≤ a0) (h1 : a0 < a1) : 0 < a1 := by omega
theorem om_707cdfc8 {a0 : Int} (h0 : 0 ≤ a0) : 0 ≤ 4 * a0 := by omega
theorem om_7080e04c {a0 a1 : Int} (h0 : 0 < a0) (h1 : a1 = a0 + (-1)) : 0 ≤ a1 := by omega
theorem om_7082ffad {NV0 NV1 : Nat} {a0 : Int} (h0 : (NV0 : Int) = a0) (h1 : (NV1 : Int) = a0 + 90) : 90 + NV0 = NV1 := by omega
theorem om_70e2a07e {a0 a1 a2 : Int} (h0 : 0 ≤ a0) (h1 : a1 = a0) (h2 : a1 = a2) : -2147483648 ≤ a2 + 1 := by omega
theorem om_710da995 {a0 : Int} (h0 : a0 ≤ 100) : a0 + 1 < 2147483648 := by omega
theorem om_71303156 {a0 : Int} (h0 : a0 ≤ 18) : 4 * a0 < 2147483648 := by omega
theorem om_71d41aa1 {a0 : Int} (h0 : 1 ≤ a0) : 0 ≤ a0 := by omega
theorem om_71ed274a {a0 : Int} (h0 : a0 < 4) : a0 + 1 < 2147483648 := by omega
theorem om_72690fb9 {a0 : Int} (h0 : 0 ≤ a0) : -2147483648 ≤ a0 + 20 := by omega
theorem om_73004bc9 {a0 a1 : Int} (h0 : a0 = a1 + 1) : 10 - a0 < 10 - a1 := by omega
theorem om_73529aab {a0 a1 a2 a3 : Int} (h0 : a0 = a1 + a2) (h1 : a2 ≤ 8) (h2 : a1 ≤ 9) (h3 : a0 = a3) : a3 + 72 < ((90 : Nat) : Int) := by omega
theorem om_735be106 {a0 : Int} (h0 : a0 < 0) (h1 : 0 ≤ a0) : False := by omega
theorem om_73cd4002 {a0 : Int} (h0 : a0 ≤ 936) : a0 + 1 < 2147483648 := by omega
theorem om_73d763a0 {a0 a1 : Int} (h0 : 0 ≤ a0) (h1 : a1 = a0 + (-1)) : (-1) ≤ a1 := by omega
theorem om_73fe24c2 {a0 a1 a2 : Int} (h0 : a0 = a1 + a2) : a0 = a2 + a1 := by omega
theorem om_747f4803 {a0 a1 : Int} (h0 : a0 = 0) : a1 ≤ a1 + 16 * a0 := by omega
theorem om_748d98c6 {NV0 : Nat} {a0 a1 a2 : Int} (h0 : (NV0 : Int) = a0 + 27) (h1 : -1 ≤ a1) (h2 : a1 < a2) (h3 : a2 = a0) : 1 < NV0 := by omega
theorem om_74aa5ab0 {a0 a1 a2 a3 a4 : Int} (h0 : a0 = 4 * a1 + 4) (h1 : a2 ≤ a3 + a4) (h2 : a4 ≤ 4 * a1) : a2 ≤ a3 + a0 := by omega
theorem om_75027c38 {a0 a1 : Int} (h0 : 0 ≤ a0) (h1 : 0 ≤ a1) : 0 ≤ a1 + 4 * a0 := by omega
theorem om_75165550 {a0 a1 : Int} (h0 : a0 = a1 + 0) : a0 = a1 := by omega
theorem om_7545b6f2 {a0 a1 a2 : Int} (h0 : a0 + a1 ≤ 287) (h1 : a2 ≤ a1) : a0 + a2 < 2147483648 := by omega
theorem om_754e2099 {a0 a1 : Int} (h0 : a0 ≤ 18) (h1 : a1 < a0) : 4 * a1 < 2147483648 := by omega
theorem om_756d8502 {a0 a1 : Int} (h0 : a0 = -1) (h1 : 0 ≤ a1) (h2 : a1 = a0) : False := by omega
theorem om_75706c8a {a0 a1 a2 : Int} (h0 : a0 = (4 * a1 + a2) - 1) : a0 = 4 * a1 + a2 + (-1) := by omega
theorem om_759872e1 (n9 : Nat) : 8 + (1 + 11) + (0) ≤ 60 * (n9 + 1) + 170 := by omega
theorem om_7599112d {a0 : Int} (h0 : a0 ≤ 18) : 27 + a0 < 2147483648 := by omega
theorem om_763fde13 {a0 : Int} (h0 : a0 = 0) : a0 ≤ 99 := by omega
theorem om_76597cad {a0 : Int} (h0 : a0 = 2) : 2 ≤ a0 := by omega
theorem om_767858ca {a0 : Int} (h0 : a0 < 65537) : a0 ≤ 65536 := by omega
theorem om_76844f4e {a0 a1 : Int} (h0 : a0 = a1 + (-1)) : a0 < a1 := by omega
theorem om_77271fb1 {a0 a1 : Int} (h0 : a0 < a1) (h1 : a1 ≤ 18) : 4 * a0 + 3 < ((90 : Nat) : Int) := by omega
theorem om_7729797d {a0 a1 : Int} (h0 : 3 ≤ a0) (h1 : a1 = 0) : a1 ≤ a0 := by omega
theorem om_772fd673 {a0 a1 a2 : Int} (h0 : a0 ≤ 4) (h1 : a1 ≤ a0) (h2 : a2 < a1 + (-1)) : a2 + 1 < ((4 : Nat) : Int) := by omega
theorem om_775131c2 (n9 : Nat) : 8 + (11 + 11) + (550) ≤ 600 + 30 * (n9 + 1) := by omega
theorem om_779a3124 {NV0 NV1 : Nat} {a0 : Int} (h0 : (NV0 : Int) = a0) (h1 : (NV1 : Int) = a0 + 27) : 27 + NV0 = NV1 := by omega
theorem om_77e4ddb5 {a0 : Int} (h0 : (-1) * a0 + 1 ≤ 0) (h1 : a0 = 0) : False := by omega
theorem om_788ad4a2 {a0 a1 : Int} (h0 : a0 ≤ 399) (h1 : a1 < a0) : a1 < ((400 : Nat) : Int) := by omega
theorem om_788ee1bc {a0 a1 a2 a3 a4 : Int} (h0 : a0 < a1) (h1 : a2 < a3) (h2 : a1 ≤ 18) (h3 : a3 ≤ 4) (h4 : a4 ≤ a2) : (4 * a0 + a4) - 1 < 2147483648 := by omega
theorem om_7907a7c1 {a0 : Int} (h0 : a0 ≤ 1) (h1 : (-1) * a0 + 1 ≤ 0) : a0 = 1 := by omega
theorem om_793baeb6 {a0 a1 : Int} (h0 : 0 ≤ a0) (h1 : 0 ≤ a1) : -2147483648 ≤ (10 * a0) + a1 := by omega
theorem om_798a0efc {NV0 NV1 : Nat} {a0 a1 : Int} (h0 : (NV0 : Int) = a0) (h1 : (NV1 : Int) = a1) : 45 + 4 * NV0 + NV1 = 45 + 4 * NV0 + NV1 := by omega
theorem om_79f05b99 {a0 a1 : Int} (h0 : a0 < a1) (h1 : a1 ≤ 18) : 9 + a0 < 2147483648 := by omega
theorem om_79fb14fb {a0 : Int} (h0 : 0 ≤ a0) : -2147483648 ≤ 90 * a0 := by omega
theorem om_7afb9f20 {NV0 : Nat} {a0 a1 : Int} (h0 : (NV0 : Int) = a0 + 9) (h1 : a0 < a1) (h2 : a1 ≤ 18) : NV0 < 27 := by omega
theorem om_7b00f9bb {a0 a1 : Int} (h0 : a0 ≤ 17) (h1 : a1 ≤ 3) : 4 * a0 + a1 + (-1) < ((72 : Nat) : Int) := by omega
theorem om_7b33dc28 {a0 a1 : Int} (h0 : a0 < 512) (h1 : a1 = a0 + 1) : a1 ≤ 1000000000 := by omega
theorem om_7b558ed0 {a0 a1 a2 : Int} (h0 : 0 ≤ a0) (h1 : a0 + a1 ≤ 1440) (h2 : a2 ≤ a1) : a2 + 1 < 2147483648 := by omega
theorem om_7c9e45be {a0 : Int} (h0 : (-1) ≤ a0) : -2147483648 ≤ a0 + (-1) := by omega
theorem om_7cc0c500 {a0 : Int} (h0 : a0 < 3) : a0 + 1 < 2147483648 := by omega
theorem om_7ced971c {a0 a1 : Int} (h0 : a0 = a1 + 1) : 1350 - a0 < 1350 - a1 := by omega
theorem om_7cf60521 {a0 a1 : Int} (h0 : a0 ≤ 17) (h1 : a1 ≤ 3) : (4 * a0) + a1 < 2147483648 := by omega
theorem om_7d3cae7d {a0 a1 a2 a3 : Int} (h0 : a0 = a1 + a2) (h1 : a1 ≤ 10) (h2 : a2 ≤ 8) (h3 : a0 = a3) : 4 * a3 < 2147483648 := by omega
theorem om_7d6ce245 {a0 a1 a2 : Int} (h0 : 0 ≤ a0) (h1 : a1 = a2) (h2 : a0 < a2) : 1 ≤ a1 := by omega
theorem om_7dd8a8cf {a0 : Int} (h0 : a0 = (-2)) : (-2) ≤ a0 := by omega
theorem om_7e8a5049 {a0 a1 : Int} (h0 : a0 ≤ a1) (h1 : a1 < a0) : False := by omega
theorem om_7e97233d {a0 : Int} (h0 : 0 ≤ a0) : -2147483648 ≤ 72 + a0 := by omega
theorem om_7ed234da {a0 a1 a2 : Int} (h0 : a0 ≤ a1) (h1 : a1 + 1 ≤ a2) : a0 + 1 ≤ a2 := by omega
theorem om_7f21f0b3 {a0 a1 : Int} (h0 : a0 ≤ 3) (h1 : a1 < a0) : 0 < 2147483647 - a1 := by omega
theorem om_7fe9d108 {a0 a1 : Int} (h0 : a0 ≤ 4) (h1 : a1 ≤ a0) : 0 < 5 - a1 := by omega
theorem om_80749fdb {a0 a1 a2 a3 : Int} (h0 : a0 + 20 ≤ 900) (h1 : a1 = a0 + a2) (h2 : a2 < 20) (h3 : a3 = a1 + 1) : a3 ≤ 900 := by omega
theorem om_80a5d224 {a0 a1 a2 a3 : Int} (h0 : -1 ≤ a0) (h1 : a0 < a1) (h2 : a1 = a2) (h3 : 0 ≤ a3) : -2147483648 ≤ (4 * a2) + a3 := by omega
theorem om_80d40543 {a0 a1 a2 : Int} (h0 : a0 < a1) (h1 : a1 ≤ 18) (h2 : a2 ≤ 4) : (4 * a0 + 45) + a2 < 2147483648 := by omega
theorem om_813b24f4 {a0 a1 a2 : Int} (h0 : a0 ≤ 4) (h1 : a0 = a1) (h2 : a2 < a1) : a2 + 1 < 2147483648 := by omega
theorem om_815cc0f0 {a0 a1 : Int} (h0 : a0 < a1) (h1 : a1 ≤ 18) : 4 * a0 + 2 < ((90 : Nat) : Int) := by omega
theorem om_817ab386 {a0 a1 a2 : Int} (h0 : a0 = a1) (h1 : a0 ≤ 4) (h2 : a2 < a1) : a2 + 1 < 2147483648 := by omega
theorem om_8189dedf {a0 : Int} (h0 : a0 < 4) : a0 ≤ 3 := by omega
theorem om_81d93db8 {a0 : Int} (h0 : -2147483648 ≤ a0) : -2147483648 ≤ a0 + 1 := by omega
theorem om_825fa3dd {a0 a1 a2 a3 : Int} (h0 : a0 = (4 * a1) + (a2 + a3)) : a0 = 4 * a1 + a2 + a3 := by omega
theorem om_8267bec5 {a0 a1 a2 a3 : Int} (h0 : a0 ≤ 4) (h1 : a0 = a1) (h2 : a2 < a1) (h3 : a3 = a2 + 1) : a3 ≤ 4 := by omega
theorem om_82688908 {a0 a1 : Int} (h0 : a0 = (4 * a1) + 1) : a0 = 4 * a1 + 1 := by omega
theorem om_82a8c57f {a0 a1 : Int} (h0 : a0 = 125 + a1) : a0 = a1 + 125 := by omega
theorem om_82d14459 {a0 a1 : Int} (h0 : 15 ≤ a0) (h1 : a1 = a0 + 1) : 0 ≤ a1 := by omega
theorem om_83344fb1 {a0 : Int} (h0 : a0 ≤ 10) : a0 + 1 < 2147483648 := by omega
theorem om_83b90de5 {a0 a1 : Int} (h0 : 0 ≤ a0) (h1 : a1 = a0 + 1) : 0 ≤ a1 := by omega
theorem om_83bd38f8 {a0 a1 a2 : Int} (h0 : a0 ≤ 18) (h1 : a0 = a1) (h2 : a2 < a1) : a2 + 1 < 2147483648 := by omega
theorem om_84ddbe81 {a0 a1 a2 a3 a4 : Int} (h0 : a0 + a1 ≤ 1000000000) (h1 : a1 = 4 * a2 + 1) (h2 : a3 ≤ a0 + a4) (h3 : a4 + a2 ≤ 4 * a2) : a3 + a2 ≤ 1000000000 := by omega
theorem om_85d4bc73 {a0 : Int} (h0 : 0 < a0) : 0 < a0 - 0 := by omega
theorem om_86a7574c {a0 a1 : Int} (h0 : 0 ≤ a0) (h1 : a0 = a1) : 0 ≤ a1 + 125 := by omega
theorem om_8728f9b4 (n9 : Nat) : (0) + 1 ≤ 1 + (n9 + 1) := by omega
theorem om_8734c1ec {a0 : Int} (h0 : 0 ≤ a0) : 0 ≤ 2 * a0 + 118 := by omega
theorem om_873bafd7 {a0 : Int} (h0 : a0 = 0) : a0 ≤ 100000000 * a0 := by omega
theorem om_87f3af2a {a0 a1 a2 a3 a4 a5 : Int} (h0 : a0 = a1 + a2) (h1 : a1 ≤ 10) (h2 : a2 ≤ 8) (h3 : a0 = a3) (h4 : a4 ≤ 4) (h5 : a5 ≤ a4) : 4 * a3 + a5 < ((90 : Nat) : Int) := by omega
theorem om_87f6ba8c {a0 a1 a2 a3 a4 : Int} (h0 : a0 = a1 + a2) (h1 : a1 ≤ 10) (h2 : a2 ≤ 8) (h3 : a0 = a3) (h4 : a4 ≤ 4) : (4 * a3 + 45) + a4 < 2147483648 := by omega
theorem om_8871eb58 {a0 : Int} (h0 : a0 ≤ 18) : 143 + (8 * a0) < 2147483648 := by omega
theorem om_88805813 {a0 a1 a2 : Int} (h0 : -1 ≤ a0) (h1 : a0 < a1) (h2 : a1 = a2) : 0 ≤ a2 + 27 := by omega
theorem om_88ac8d02 {a0 a1 : Int} (h0 : a0 ≤ 4) (h1 : a0 = a1) : 2 * a1 < 2147483648 := by omega
theorem om_894b99c2 {a0 : Int} (h0 : 0 ≤ a0) : -2147483648 ≤ 8 * a0 := by omega
theorem om_89646172 {a0 a1 : Int} (h0 : a0 = a1 - 1) : a0 = a1 + (-1) := by omega
theorem om_899216b5 {a0 : Int} (h0 : a0 ≤ 0) : a0 ≤ 900 := by omega
theorem om_89e8ce70 {a0 a1 : Int} (h0 : a0 ≤ 8) (h1 : a1 ≤ a0) : a1 + 1 < 2147483648 := by omega
theorem om_8ad0707b {a0 : Int} (h0 : a0 = 0) : a0 ≤ 18 := by omega
theorem om_8ad9346e {a0 a1 a2 : Int} (h0 : a0 = (a1 + a2) + 1) : a0 = a1 + a2 + 1 := by omega
theorem om_8b08a55a {a0 : Int} (h0 : a0 ≤ 18) : a0 + 125 < ((287 : Nat) : Int) := by omega
theorem om_8ba429ce {a0 a1 a2 a3 : Int} (h0 : a0 ≤ 18) (h1 : a1 = a2) (h2 : a1 ≤ 4) (h3 : a3 < a2) : (4 * a0) + a3 < 2147483648 := by omega
theorem om_8bd45658 {a0 a1 a2 : Int} (h0 : a0 + a1 ≤ 90) (h1 : a2 ≤ a1) : a0 + a2 < 2147483648 := by omega
theorem om_8d4a621a {a0 a1 a2 : Int} (h0 : a0 = (8 * a1 + 143) + a2) : a0 = 8 * a1 + a2 + 143 := by omega
theorem om_8d6fa258 {a0 a1 : Int} (h0 : 0 ≤ a0) (h1 : a0 = a1) : -2147483648 ≤ (2 * a1 + 117) + 1 := by omega
theorem om_8d9bee11 {a0 : Int} (h0 : 0 ≤ a0) : 0 ≤ 4 * a0 + 1 := by omega
theorem om_8e01d6bb {a0 a1 a2 a3 : Int} (h0 : a0 = a1 + a2) (h1 : a1 ≤ 10) (h2 : a2 ≤ 8) (h3 : a0 = a3) : 72 + a3 < 2147483648 := by omega
theorem om_8e53ee4b (n9 : Nat) : 1 ≤ 2 * n9 + 5 := by omega
theorem om_8ed03fa4 {a0 : Int} (h0 : a0 ≤ 9) : 0 < 10 - a0 := by omega
theorem om_90a71968 {a0 a1 a2 : Int} (h0 : a0 < a1) (h1 : a2 < a0) : a2 < a1 := by omega
theorem om_90f2cd2a {a0 a1 a2 : Int} (h0 : a0 = (4 * a1) + a2) : a0 = a2 + 4 * a1 := by omega
theorem om_91565d1d {a0 a1 : Int} (h0 : a0 = 143 + (8 * a1)) : a0 = 8 * a1 + 143 := by omega
theorem om_91c3f935 {a0 a1 : Int} (h0 : a0 = a1 + 1) : 20 - a0 < 20 - a1 := by omega
theorem om_91d96c16 {a0 a1 : Int} (h0 : 0 ≤ a0) (h1 : 0 ≤ a1) : -2147483648 ≤ (a0 + a1) + 1 := by omega
theorem om_91e3ab43 {a0 a1 a2 a3 a4 : Int} (h0 : a0 ≤ 880) (h1 : a1 = a0 + 4) (h2 : a2 = a1 + 4) (h3 : a3 = a2 + 4) (h4 : a4 = a3 + 4) : a4 ≤ 896 := by omega
theorem om_92405955 {a0 a1 a2 a3 a4 a5 : Int} (h0 : a0 = a1 + a2) (h1 : a1 ≤ 10) (h2 : a2 ≤ 8) (h3 : a0 = a3) (h4 : a4 ≤ 4) (h5 : a5 ≤ a4) : (4 * a3) + a5 < 2147483648 := by omega
theorem om_92495247 {a0 : Int} (h0 : a0 = 1) (h1 : a0 ≤ 0) : False := by omega
theorem om_9293eb5d {a0 : Int} (h0 : a0 < 99) : a0 + 1 < 2147483648 := by omega
theorem om_9348f5ae {a0 a1 a2 : Int} (h0 : a0 ≤ a1) (h1 : a1 ≤ a2) : a0 ≤ a2 := by omega
theorem om_93849e10 {a0 a1 : Int} (h0 : a0 < 2) (h1 : a1 = a0 + 2) : a1 ≤ 3 := by omega
theorem om_9548a8fd {a0 : Int} (h0 : 0 ≤ a0) : 0 ≤ a0 + 1 := by omega
theorem om_9636131c {a0 : Int} (h0 : a0 = 3) (h1 : a0 = 1) : False := by omega
theorem om_96839482 {a0 : Int} (h0 : a0 ≠ 4) (h1 : a0 ≤ 4) : a0 + (-3) ≤ 0 := by omega
theorem om_969227b0 (n9 : Nat) : (2 * n9 + 4) + 1 ≤ 2 * n9 + 5 := by omega
theorem om_96a52bfb {a0 a1 : Int} (h0 : a0 ≤ 17) (h1 : a1 = a0 + (-1)) : a1 ≤ 17 := by omega
theorem om_96ed692b {a0 a1 : Int} (h0 : a0 < 8) (h1 : a1 = a0 + 1) : a1 ≤ 900 := by omega
theorem om_96f0585e {a0 a1 a2 a3 a4 : Int} (h0 : a0 ≤ a1 + 16 * a2) (h1 : a3 ≤ a0 + 16) (h2 : a4 = a2 + 1) : a3 ≤ a1 + 16 * a4 := by omega
theorem om_97041ec6 {a0 a1 a2 a3 a4 : Int} (h0 : 8 * a0 + a1 = 8 * a2 + 24) (h1 : a3 = a0 + 1) (h2 : a4 = a1 + (-8)) : 8 * a3 + a4 = 8 * a2 + 24 := by omega
theorem om_97113e8e {a0 a1 : Int} (h0 : 0 ≤ a0) (h1 : 0 ≤ a1) : -2147483648 ≤ (4 * a0 + 45) + a1 := by omega
theorem om_9734b4e0 {a0 : Int} (h0 : -2 ≤ a0) : 0 < a0 + 3 := by omega
theorem om_9747a55e {a0 : Int} (h0 : a0 = 0) : a0 ≤ 3 := by omega
theorem om_97cd4a7c {a0 a1 : Int} (h0 : a0 ≤ 18) (h1 : a1 < a0) : a1 < ((18 : Nat) : Int) := by omega
theorem om_980bf2f9 {a0 : Int} (h0 : (-1) ≤ a0) : -2147483648 ≤ a0 + 2 := by omega
theorem om_9856eb95 {a0 a1 : Int} (h0 : a0 < 287) (h1 : a1 = a0 + 1) : a1 ≤ 287 := by omega
theorem om_9887bb99 {a0 : Int} (h0 : 1 ≤ a0) (h1 : a0 = 0) : False := by omega
theorem om_99207359 {NV0 : Nat} {a0 a1 a2 a3 a4 : Int} (h0 : (NV0 : Int) = 4 * a0 + a1 + 45) (h1 : a0 < a2) (h2 : a2 ≤ 18) (h3 : a3 ≤ 4) (h4 : a3 = a4) (h5 : a1 < a4) : NV0 < 117 := by omega
theorem om_994f3184 {a0 a1 : Int} (h0 : 0 ≤ a0) (h1 : a1 + a0 ≤ 100) : a1 + 1 < 2147483648 := by omega
theorem om_999e7d75 {a0 a1 a2 : Int} (h0 : a0 < a1) (h1 : a1 ≤ 18) (h2 : a2 = 0) : a2 + a0 ≤ 100 := by omega
theorem om_9a0d23dc {a0 a1 a2 : Int} (h0 : a0 = a1) (h1 : a2 < a0) : a2 < a1 := by omega
theorem om_9a551369 {a0 a1 a2 a3 a4 : Int} (h0 : a0 < a1) (h1 : a1 ≤ 18) (h2 : a2 ≤ 4) (h3 : a2 = a3) (h4 : a4 < a3) : 4 * a0 + a4 < ((90 : Nat) : Int) := by omega
theorem om_9acf6818 {a0 a1 : Int} (h0 : a0 ≤ 3) (h1 : a0 = a1) (h2 : a1 = 3) : a0 = 3 := by omega
theorem om_9b1c209f {a0 : Int} (h0 : 0 ≤ a0) : (-1) ≤ a0 := by omega
theorem om_9b4dc480 {a0 : Int} (h0 : 0 ≤ a0) : 0 < a0 - (-1) := by omega
theorem om_9b872883 {NV0 : Nat} {a0 a1 a2 a3 : Int} (h0 : (NV0 : Int) = 4 * a0 + a1 + 45) (h1 : -1 ≤ a2) (h2 : a2 < a3) (h3 : a3 = a0) (h4 : 0 ≤ a1) : 1 < NV0 := by omega
theorem om_9badf829 {a0 a1 : Int} (h0 : a0 ≤ 8) (h1 : a1 < a0) : a1 < ((8 : Nat) : Int) := by omega
theorem om_9bbffcd5 {a0 a1 a2 a3 : Int} (h0 : a0 ≤ 17) (h1 : a0 = a1) (h2 : a2 = 8 * a1 + 143) (h3 : a3 = 8) : a2 + a3 ≤ 287 := by omega
theorem om_9cb1db70 {a0 a1 : Int} (h0 : a0 = a1) (h1 : 0 ≤ a0) : 0 ≤ a1 := by omega
theorem om_9d4b3423 {NV0 : Nat} {a0 a1 : Int} (h0 : (NV0 : Int) = 4 * a0 + a1 + 45) (h1 : 0 ≤ a0) (h2 : 0 ≤ a1) : 45 ≤ NV0 := by omega
theorem om_9d611bdb {a0 : Int} (h0 : a0 ≤ 18) : a0 + 1 < 2147483648 := by omega
theorem om_9d89ddfe {a0 a1 : Int} (h0 : 0 ≤ a0) : a1 ≤ a1 + a0 := by omega
theorem om_9da1971f {a0 a1 a2 : Int} (h0 : a0 ≤ 18) (h1 : a0 = a1) (h2 : a2 < a1) : a2 + 9 < ((287 : Nat) : Int) := by omega
theorem om_9e5b2812 {a0 a1 a2 : Int} (h0 : a0 ≤ 18) (h1 : a1 < a0) (h2 : a2 ≤ 3) : (4 * a1) + a2 < 2147483648 := by omega
theorem om_9e6bb6a4 {a0 a1 a2 : Int} (h0 : -1 ≤ a0) (h1 : a0 < a1) (h2 : a1 = a2) : -2147483648 ≤ 4 * a2 := by omega
theorem om_9ecc8862 {a0 a1 : Int} (h0 : 0 ≤ a0) (h1 : a0 + a1 ≤ 100) : 9 + a1 < 2147483648 := by omega
theorem om_9f91692d {a0 a1 : Int} (h0 : 0 ≤ a0) (h1 : 0 ≤ a1) : -2147483648 ≤ (4 * a0 + a1) - 1 := by omega
theorem om_9fd6b7da {a0 a1 a2 a3 : Int} (h0 : 0 ≤ a0) (h1 : a0 + a1 ≤ 100) (h2 : a2 ≤ 4) (h3 : a3 ≤ a2) : (4 * a1) + a3 < 2147483648 := by omega
theorem om_a06ed41a {a0 a1 a2 a3 : Int} (h0 : a0 + a1 ≤ 100) (h1 : a2 < a1) (h2 : a3 = a0 + 1) : a3 + a2 ≤ 100 := by omega
theorem om_a0b7f4d9 {a0 a1 : Int} (h0 : 0 ≤ a0) (h1 : 0 ≤ a1) : 0 ≤ 4 * a0 + a1 + 45 := by omega
theorem om_a12d6474 {a0 a1 a2 : Int} (h0 : -1 ≤ a0) (h1 : a0 < a1) (h2 : a2 = a1) : 0 ≤ a2 := by omega
theorem om_a13a942c {a0 a1 : Int} (h0 : a0 < 18) (h1 : a1 = a0 + 1) : a1 ≤ 2147483647 := by omega
theorem om_a1652d4b {a0 a1 a2 a3 a4 : Int} (h0 : a0 + 4 ≤ 1000000000) (h1 : a1 ≤ a0 + a2) (h2 : a3 ≤ 4) (h3 : a2 < a3) (h4 : a4 = a1 + 1) : a4 ≤ 1000000000 := by omega
theorem om_a16f1d62 {a0 a1 a2 : Int} (h0 : a0 ≤ 3) (h1 : a1 < a0) (h2 : a2 = a1 + 1) : a2 ≤ 2147483647 := by omega
theorem om_a203a731 {a0 a1 a2 a3 : Int} (h0 : a0 + 4 * a1 + 4 ≤ 1000000000) (h1 : a2 ≤ a0 + a3) (h2 : a3 + a1 ≤ 4 * a1) : a2 + a1 ≤ 1000000000 := by omega
theorem om_a2451a67 {a0 a1 a2 : Int} (h0 : a0 ≤ a1) (h1 : a1 + 1 ≤ a2) : a0 ≤ a2 := by omega
theorem om_a2cb7fa1 {a0 a1 : Int} (h0 : a0 = a1 + (-1)) : a0 - (-1) < a1 - (-1) := by omega
theorem om_a3075e9f {a0 a1 a2 a3 : Int} (h0 : a0 + 4 * a1 ≤ 1000000000) (h1 : a2 ≤ a0 + a3) (h2 : a3 + a1 ≤ 4 * a1) : a2 + a1 ≤ 1000000000 := by omega
theorem om_a32040d0 {a0 a1 a2 a3 : Int} (h0 : 0 ≤ a0) (h1 : a1 ≤ a2 + a3) : 0 ≤ 4 * a0 + (-1) * a1 + a2 + a3 := by omega
theorem om_a32d6481 {a0 a1 : Int} (h0 : a0 ≤ 18) (h1 : a1 < a0) : a1 + 1 < 2147483648 := by omega
theorem om_a45db860 {a0 a1 a2 : Int} (h0 : a0 ≤ 18) (h1 : a0 = a1) (h2 : a2 < a1) : 9 + a2 < 2147483648 := by omega
theorem om_a4907767 {a0 : Int} (h0 : a0 ≤ 900) : a0 + 1 < 2147483648 := by omega
theorem om_a5029d32 {a0 a1 : Int} (h0 : a0 = a1 + 1) : a0 ≤ a1 + 4 := by omega
theorem om_a5725a83 {a0 a1 a2 : Int} (h0 : -1 ≤ a0) (h1 : a0 < a1) (h2 : a1 = a2) : -2147483648 ≤ a2 - 1 := by omega
theorem om_a596ea43 {a0 a1 : Int} (h0 : a0 ≤ 9) (h1 : a1 = a0 + 1) : a1 ≤ 10 := by omega
theorem om_a5cacb64 {a0 a1 a2 : Int} (h0 : a0 ≤ 18) (h1 : a0 = a1) (h2 : a2 < a1) : 0 < 18 - a2 := by omega
theorem om_a5dae84d {a0 a1 a2 : Int} (h0 : a0 = a1) (h1 : a0 ≤ 4) (h2 : a2 < a1) : 0 < 2147483647 - a2 := by omega
theorem om_a5fe015d {a0 : Int} (h0 : (-1) * a0 + 1 ≤ 0) (h1 : a0 ≤ 0) : False := by omega
theorem om_a672a430 {a0 a1 : Int} (h0 : 0 ≤ a0) (h1 : a1 = a0) : 0 ≤ a1 := by omega
theorem om_a6833ec3 {a0 : Int} (h0 : a0 < 18) : a0 + 1 < 2147483648 := by omega
theorem om_a6c1c990 {a0 : Int} (h0 : a0 ≤ 287) : a0 + 1 < 2147483648 := by omega
theorem om_a6f68295 {a0 a1 : Int} (h0 : 0 ≤ a0) (h1 : a0 = a1) : 0 ≤ a1 + 9 := by omega
theorem om_a705d0e8 {a0 a1 : Int} (h0 : a0 ≤ a1) (h1 : a1 = 99) : a0 + 1 < 2147483648 := by omega
theorem om_a7399cb8 {a0 a1 : Int} (h0 : a0 = a1 + 1) : 5 - a0 < 5 - a1 := by omega
theorem om_a7fa4c1e {a0 : Int} (h0 : a0 = 16) : 0 ≤ 90 * a0 + (-90) := by omega
theorem om_a83fc49f {a0 : Int} (h0 : a0 = 1) : a0 ≤ 3 := by omega
theorem om_a84bc89b {NV0 : Nat} {a0 a1 : Int} (h0 : (NV0 : Int) = 2 * a0 + 117) (h1 : 0 ≤ a1) (h2 : a1 = a0) : 3 < NV0 := by omega
theorem om_a853c676 {a0 : Int} (h0 : a0 ≤ 399) : a0 < ((400 : Nat) : Int) := by omega
theorem om_a870273e {a0 : Int} (h0 : a0 = 10) : 0 ≤ a0 := by omega
theorem om_a8960480 {a0 : Int} (h0 : 0 ≤ a0) : 0 ≤ 75 * a0 + 74 := by omega
theorem om_a8db8aec {a0 : Int} (h0 : 0 ≤ a0) : -2147483648 ≤ 143 + (8 * a0) := by omega
theorem om_a905bcc5 {a0 a1 : Int} (h0 : 0 ≤ a0) (h1 : a0 + a1 ≤ 100) : 72 + a1 < 2147483648 := by omega
theorem om_a9f9605f {a0 : Int} (h0 : -8 ≤ a0) : -2147483648 ≤ a0 + (-8) := by omega
theorem om_aa015f9b {a0 a1 a2 a3 a4 a5 : Int} (h0 : a0 ≤ a1) (h1 : a2 = a3 + (a0 - a4)) (h2 : a1 = a5) (h3 : a5 ≤ a0) : a2 = a3 + (a1 - a4) := by omega
theorem om_aa692474 {a0 : Int} (h0 : a0 < 4) : -2147483648 ≤ 24 - (8 * a0) := by omega
theorem om_aa9b3c6d {a0 : Int} (h0 : 0 ≤ a0) : 0 < a0 + 8 := by omega
theorem om_aa9e05ca {a0 : Int} (h0 : a0 ≤ 18) : 72 + a0 < 2147483648 := by omega
theorem om_aaba5e1c {a0 : Int} (h0 : a0 = 0) : a0 ≤ 90 := by omega
theorem om_ab2f2710 {a0 a1 : Int} (h0 : a0 < a1) (h1 : a1 ≤ 18) : (4 * a0) + 0 < 2147483648 := by omega
theorem om_ab5399c3 {NV0 : Nat} {a0 : Int} (h0 : (NV0 : Int) = a0 + 27) (h1 : 0 ≤ a0) : 27 ≤ NV0 := by omega
theorem om_ab9846f4 {a0 a1 a2 a3 a4 a5 a6 : Int} (h0 : a0 ≤ a1) (h1 : a1 ≤ a2) (h2 : a2 ≤ a3) (h3 : a3 ≤ a4) (h4 : a4 ≤ a5) (h5 : a5 + 1 ≤ a6) : a0 + 1 ≤ a6 := by omega
theorem om_abd96baa {a0 : Int} (h0 : a0 = 1) : a0 ≤ 2147483647 := by omega
theorem om_abee7189 {a0 a1 : Int} (h0 : a0 + 1 ≤ 1000000000) (h1 : a1 = a0 + 1) : a1 ≤ 1000000000 := by omega
theorem om_ac0e1d60 {a0 a1 a2 : Int} (h0 : a0 = a1) (h1 : a1 = 0) (h2 : a0 = a2) (h3 : a2 = 3) : False := by omega
theorem om_ac26f93d {a0 : Int} (h0 : a0 = 2) : a0 ≤ 5 := by omega
theorem om_ac7239fc {a0 a1 a2 a3 a4 a5 a6 : Int} (h0 : a0 ≤ a1) (h1 : a1 ≤ a2) (h2 : a2 ≤ a3) (h3 : a3 ≤ a4) (h4 : a4 ≤ a5) (h5 : a5 ≤ a6) : a0 ≤ a6 := by omega
theorem om_ac8c4cd7 {a0 : Int} (h0 : 0 < a0) : 0 ≤ a0 + (-1) := by omega
theorem om_ac8e3760 {a0 a1 a2 a3 : Int} (h0 : a0 ≤ 8) (h1 : a1 = a0) (h2 : a2 = a1) (h3 : a2 = a3) : a3 + 1 < 2147483648 := by omega
theorem om_aca3d3b7 {a0 : Int} (h0 : 0 ≤ a0) : -2147483648 ≤ 125 + a0 := by omega
theorem om_aca7dd7e {a0 a1 : Int} (h0 : a0 = 90 * (a1 + (-1))) : a0 = 90 * a1 + (-90) := by omega
theorem om_acdbfea5 {a0 a1 a2 : Int} (h0 : 0 ≤ a0) (h1 : a0 + a1 ≤ 270) (h2 : a2 ≤ a1) : a2 + 1 < 2147483648 := by omega
theorem om_ad0d8b60 {a0 a1 : Int} (h0 : a0 ≤ 900) (h1 : a1 < a0) : 0 < 900 - a1 := by omega
theorem om_ad124daf {a0 a1 a2 : Int} (h0 : a0 + a1 ≤ 90) (h1 : a2 < a1) : a0 + a2 < ((90 : Nat) : Int) := by omega
theorem om_ad48e43d {a0 a1 a2 : Int} (h0 : 0 ≤ a0) (h1 : 0 ≤ a1) (h2 : 0 ≤ a2) : -2147483648 ≤ (4 * a0) + (a1 + a2) := by omega
theorem om_ae4eab2a {a0 a1 : Int} (h0 : a0 = a1) (h1 : a0 ≤ 4) : a1 - 1 < 2147483648 := by omega
theorem om_ae6154cf {a0 a1 a2 a3 a4 : Int} (h0 : a0 ≤ a1 + 64 * a2) (h1 : a3 ≤ a0 + 64) (h2 : a4 = a2 + 1) : a3 ≤ a1 + 64 * a4 := by omega
theorem om_aedd0fe6 {a0 : Int} (h0 : a0 < 100) : 0 < 100 - a0 := by omega
theorem om_afcf07ef {a0 a1 a2 : Int} (h0 : a0 < a1) (h1 : a2 = a0 + 1) : a2 ≤ a1 := by omega
theorem om_b0741cbc {a0 a1 a2 : Int} (h0 : a0 ≤ 4) (h1 : a1 ≤ a0) (h2 : a2 < a1) : a2 ≤ 2147483647 := by omega
theorem om_b094b61d {a0 a1 a2 : Int} (h0 : a0 ≤ 896) (h1 : 8 * a1 + a2 = 8 * a0 + 24) (h2 : 0 ≤ a2) (h3 : 900 ≤ a1) : False := by omega
theorem om_b0a24e33 (n9 : Nat) : 8 + (2 + 11) + (0) ≤ 60 * (n9 + 1) + 170 := by omega
theorem om_b0b40937 {a0 a1 : Int} (h0 : a0 = 0) (h1 : a1 = 99) : a0 ≤ a1 := by omega
theorem om_b1155cdc {a0 : Int} (h0 : a0 = 1) (h1 : a0 = 0) : False := by omega
theorem om_b15653e6 {a0 a1 : Int} (h0 : 0 ≤ a0) (h1 : 0 ≤ a1) : 0 ≤ 4 * a0 + a1 + 1 := by omega
theorem om_b176946d {a0 : Int} (h0 : 0 ≤ a0) : 0 ≤ 4 * a0 + 2 := by omega
theorem om_b188283c {a0 a1 : Int} (h0 : a0 = 0) (h1 : a1 = a0 + 1) : a1 ≤ 4 := by omega
theorem om_b1ad024b {a0 a1 : Int} (h0 : a0 ≤ 100) (h1 : a0 = a1) : -2147483648 ≤ 100 - a1 := by omega
theorem om_b1b8516a {a0 a1 : Int} (h0 : a0 = (a1 + 1) - 1) : a0 = a1 := by omega
theorem om_b1de7dbe {a0 : Int} (h0 : a0 = 0) : 0 ≤ a0 := by omega
theorem om_b23ddd3e {a0 a1 : Int} (h0 : a0 ≤ 4) (h1 : a0 = a1) : 2 * a1 + 117 < ((287 : Nat) : Int) := by omega
theorem om_b2464657 {a0 : Int} (h0 : 0 ≤ a0) : 0 ≤ a0 + 125 := by omega
theorem om_b26234d9 {a0 a1 : Int} (h0 : a0 ≤ 3) (h1 : a1 = a0 + (-1)) : a1 ≤ 3 := by omega
theorem om_b2aa452b (n9 : Nat) : 8 + (4 + 11) + (0) ≤ 10 + 28 * (n9 + 1) := by omega
theorem om_b31b3835 {a0 : Int} (h0 : a0 ≤ 984) : a0 + 1 < 2147483648 := by omega
theorem om_b3735a34 {a0 : Int} (h0 : a0 ≤ 17) : a0 < ((18 : Nat) : Int) := by omega
theorem om_b3a00678 {a0 a1 a2 a3 : Int} (h0 : a0 ≤ a1 + 16 * a2) (h1 : a3 = a2 + 1) : a0 ≤ a1 + 16 * a3 := by omega
theorem om_b4727d0e {a0 a1 a2 a3 a4 a5 a6 : Int} (h0 : a0 + (a1 - a2) ≤ 399) (h1 : a3 = a0 + (a4 - a2)) (h2 : a1 = a5) (h3 : a4 < a5) (h4 : a6 = a3 + 1) : a6 ≤ 399 := by omega
theorem om_b49cbcdc {a0 a1 : Int} (h0 : a0 < 900) (h1 : a1 = a0 + 1) : a1 ≤ 900 := by omega
theorem om_b4b48b7f {a0 : Int} (h0 : 0 ≤ a0) : 0 ≤ a0 + 27 := by omega
theorem om_b4d9a0d3 {a0 a1 a2 : Int} (h0 : a0 + a1 ≤ 1000000000) (h1 : a1 = 4 * a2 + 1) : a0 + 4 * a2 ≤ 1000000000 := by omega
theorem om_b5116cbd {a0 : Int} (h0 : a0 = 2) : a0 ≤ 3 := by omega
theorem om_b5a33b7d {a0 : Int} (h0 : a0 < 18) : 0 < 2147483647 - a0 := by omega
theorem om_b5b12285 {a0 a1 : Int} (h0 : a0 ≤ 18) (h1 : a1 < a0) : 27 + a1 < 2147483648 := by omega
theorem om_b632e1fc {a0 : Int} (h0 : a0 ≤ 3) : (a0 + 1) - 1 < 2147483648 := by omega
theorem om_b649409c {a0 a1 a2 : Int} (h0 : a0 + a1 ≤ 1440) (h1 : a2 ≤ a1) : a0 + a2 < 2147483648 := by omega
theorem om_b6788662 {a0 : Int} (h0 : 2 ≤ a0) : -2147483648 ≤ a0 + 1 := by omega
theorem om_b69853f0 {a0 a1 a2 a3 : Int} (h0 : a0 < a1) (h1 : a1 ≤ 18) (h2 : a2 ≤ 4) (h3 : a3 < a2) : 4 * a0 + a3 < ((90 : Nat) : Int) := by omega
theorem om_b7e30450 {a0 a1 a2 : Int} (h0 : a0 ≤ 17) (h1 : a1 ≤ 4) (h2 : a2 < a1) : 4 * a0 + a2 < ((72 : Nat) : Int) := by omega
theorem om_b7e8de73 {a0 a1 : Int} (h0 : 0 ≤ a0) (h1 : 0 ≤ a1) : 0 ≤ a1 + a0 := by omega
theorem om_b7ea5ffe {a0 : Int} (h0 : a0 ≠ 3) (h1 : a0 ≤ 3) : a0 + (-2) ≤ 0 := by omega
theorem om_b82471d9 {a0 a1 a2 : Int} (h0 : a0 ≤ a1) (h1 : a2 < a0) (h2 : a1 = 9) : a2 + 1 < 2147483648 := by omega
theorem om_b84346af {a0 : Int} (h0 : a0 ≤ 24) : a0 + (-8) < 2147483648 := by omega
theorem om_b868baad {a0 : Int} (h0 : a0 ≤ 0) : a0 ≤ 16 := by omega
theorem om_b88df98f {a0 a1 : Int} (h0 : 0 ≤ a0) (h1 : a0 = a1) : -2147483648 ≤ 9 + a1 := by omega
theorem om_b8edbab1 {a0 a1 : Int} (h0 : a0 = 0) (h1 : a1 = a0 + 1) : a1 ≤ 2147483647 := by omega
theorem om_b9393183 {a0 a1 : Int} (h0 : a0 = a1 + 1) : 2147483647 - a0 < 2147483647 - a1 := by omega
theorem om_b976e3ef {a0 : Int} (h0 : a0 = 0) : a0 ≤ 287 := by omega
theorem om_b9d90e34 (n9 : Nat) : 8 + (4 + 11) + (0) ≤ 60 * n9 + 136 := by omega
theorem om_ba6d3664 {a0 a1 : Int} (h0 : a0 ≤ 18) (h1 : a1 < a0) : 9 + a1 < 2147483648 := by omega
theorem om_ba7cfd31 {a0 a1 a2 a3 : Int} (h0 : a0 ≤ 18) (h1 : a1 < a0) (h2 : a2 ≤ 4) (h3 : a3 < a2) : (4 * a1) + a3 < 2147483648 := by omega
theorem om_ba88833f {a0 : Int} (h0 : 0 ≤ a0) : -2147483648 ≤ (4 * a0) + 2 := by omega
theorem om_ba9f7a96 {a0 : Int} (h0 : a0 ≤ 3) : a0 - 1 < 2147483648 := by omega
theorem om_bae2951a {a0 : Int} (h0 : a0 ≤ 4) : a0 + 1 < 2147483648 := by omega
theorem om_bb111043 {a0 : Int} (h0 : a0 = 3) (h1 : a0 = 2) : False := by omega
theorem om_bc1d2a0e {a0 : Int} (h0 : a0 ≤ 17) : a0 + 72 < ((90 : Nat) : Int) := by omega
theorem om_bc4d5040 {a0 a1 : Int} (h0 : a0 < 2147483648) (h1 : a1 < a0) : 0 < 2147483647 - a1 := by omega
theorem om_bcad9cdb {a0 a1 a2 a3 : Int} (h0 : a0 ≤ a1) (h1 : a2 < a0) (h2 : a3 = a2 + 1) (h3 : a1 = 9) : a3 ≤ 2147483647 := by omega
theorem om_bcd0330c {a0 : Int} (h0 : a0 ≤ 18) : a0 + 9 < ((287 : Nat) : Int) := by omega
theorem om_bce59bf7 {a0 a1 a2 : Int} (h0 : a0 ≤ 4) (h1 : a1 ≤ a0) (h2 : a2 < a1) : a2 < ((4 : Nat) : Int) := by omega
theorem om_bd291552 {a0 : Int} (h0 : a0 ≤ 65536) : (75 * a0) + 74 < 2147483648 := by omega
theorem om_bd3e8f22 {a0 : Int} (h0 : 0 ≤ a0) : 24 - (8 * a0) < 2147483648 := by omega
theorem om_bd9fa001 {a0 : Int} (h0 : a0 = 0) : 0 < 4 - a0 := by omega
theorem om_be042b3b {a0 a1 : Int} (h0 : a0 ≤ 1) (h1 : (-1) * a1 + 1 ≤ 0) : a0 ≤ a1 := by omega
theorem om_be264279 {a0 a1 a2 a3 a4 : Int} (h0 : a0 ≤ a1 + a2) (h1 : a3 = a0 + 1) (h2 : a4 = a2 + 1) : a3 ≤ a1 + a4 := by omega
theorem om_be3e613d {a0 a1 a2 : Int} (h0 : a0 ≤ 17) (h1 : a1 ≤ 4) (h2 : a2 < a1) : (4 * a0) + a2 < 2147483648 := by omega
theorem om_bebe011a {a0 : Int} (h0 : a0 = 0) : a0 ≤ 4 := by omega
theorem om_bf01e563 {a0 a1 a2 : Int} (h0 : 0 ≤ a0) (h1 : a0 ≤ a1) (h2 : a2 = 0) : a2 ≤ a1 := by omega
theorem om_bf06ae8a {a0 : Int} (h0 : a0 ≤ 3) : a0 + 1 < 2147483648 := by omega
theorem om_bf0cfbeb {a0 a1 : Int} (h0 : a0 = a1 + 1) : 287 - a0 < 287 - a1 := by omega
theorem om_bf54f653 {a0 : Int} (h0 : a0 = 3) : 1 ≤ a0 := by omega
theorem om_c083232f {a0 : Int} (h0 : a0 = 1) : 1 ≤ a0 := by omega
theorem om_c0e47178 {a0 a1 a2 : Int} (h0 : 0 ≤ a0) (h1 : a1 = 4 * a0 + 1) : a2 ≤ a2 + a1 := by omega
theorem om_c1023465 {a0 a1 a2 : Int} (h0 : a0 ≤ 4) (h1 : a0 = a1) (h2 : a2 < a1) : 0 < 2147483647 - a2 := by omega
theorem om_c195dea7 {a0 : Int} (h0 : a0 = 1) : a0 ≤ 100 := by omega
theorem om_c1b5ee39 {a0 a1 : Int} (h0 : a0 ≤ 24) (h1 : a1 = a0 + (-8)) : a1 ≤ 24 := by omega
theorem om_c2023721 {a0 a1 a2 : Int} (h0 : a0 ≤ 17) (h1 : a1 ≤ 3) (h2 : a2 < a1) : (4 * a0 + a2) + 1 < 2147483648 := by omega
theorem om_c304561b {a0 a1 : Int} (h0 : a0 ≤ 17) (h1 : a0 = a1) : 8 * a1 < 2147483648 := by omega
theorem om_c314a240 {a0 a1 : Int} (h0 : a0 = (2 * a1 + 117) + 1) : a0 = 2 * a1 + 118 := by omega
theorem om_c386ca97 {a0 a1 a2 : Int} (h0 : a0 ≤ 99) (h1 : a1 ≤ 99) (h2 : a2 ≤ a0 + a1 + 1) : a2 - 1 < 2147483648 := by omega
theorem om_c3e6050f {a0 : Int} (h0 : a0 < 18) : a0 < ((18 : Nat) : Int) := by omega
theorem om_c3f6ceea {a0 a1 : Int} (h0 : a0 ≤ 15) (h1 : a1 = a0 + 1) : a1 ≤ 16 := by omega
theorem om_c47aa3f6 {a0 a1 : Int} (h0 : 0 ≤ a0) (h1 : 0 ≤ a1) : -2147483648 ≤ (4 * a0 + a1) + 1 := by omega
theorem om_c4d8e5eb {a0 a1 a2 a3 a4 : Int} (h0 : a0 < a1) (h1 : a2 < a3) (h2 : a1 ≤ 18) (h3 : a3 ≤ 4) (h4 : a4 ≤ a2) : 4 * a0 + a4 < ((90 : Nat) : Int) := by omega
theorem om_c4df49a1 {a0 a1 : Int} (h0 : a0 < a1) (h1 : a1 ≤ 18) : a0 + 9 < ((287 : Nat) : Int) := by omega
theorem om_c571fa83 {a0 : Int} (h0 : a0 = 0) : a0 ≤ 1350 := by omega
theorem om_c5b3d97d {a0 : Int} (h0 : 0 ≤ a0) : -2147483648 ≤ 2 * a0 := by omega
theorem om_c5bf4e80 {a0 a1 a2 : Int} (h0 : a0 ≤ 18) (h1 : a0 = a1) (h2 : a2 < a1) : 4 * a2 < 2147483648 := by omega
theorem om_c642a4d1 {a0 a1 : Int} (h0 : a0 ≤ 16) (h1 : a1 = a0) : a1 ≤ 16 := by omega
theorem om_c68f1f10 {a0 a1 : Int} (h0 : 0 ≤ a0) (h1 : a0 = a1) : -2147483648 ≤ a1 + 1 := by omega
theorem om_c6acd489 {a0 a1 a2 a3 : Int} (h0 : a0 = 4 * a1 + 4) (h1 : a2 ≤ a3 + 4 * a1) : a2 ≤ a3 + a0 := by omega
theorem om_c7c1b1e9 {a0 : Int} (h0 : a0 ≠ 0) (h1 : a0 ≤ 0) : a0 + 1 ≤ 0 := by omega
theorem om_c7c314e6 {a0 a1 : Int} (h0 : a0 ≤ 17) (h1 : a1 ≤ 4) : (4 * a0) + a1 < 2147483648 := by omega
theorem om_c8571833 {a0 : Int} (h0 : 0 ≤ a0) : 0 ≤ 2 * a0 + 117 := by omega
theorem om_c8677ab2 {a0 a1 : Int} (h0 : a0 ≤ 900) (h1 : a1 ≤ a0) : a1 + 1 < 2147483648 := by omega
theorem om_c919b873 {a0 a1 a2 : Int} (h0 : a0 ≤ 17) (h1 : a1 ≤ 3) (h2 : a2 < a1) : (4 * a0) + a2 < 2147483648 := by omega
theorem om_c9276b6d {a0 a1 : Int} (h0 : a0 ≤ 4) (h1 : a1 < a0) : a1 ≤ 3 := by omega
theorem om_c9ba8b89 {a0 : Int} (h0 : a0 ≠ 0) (h1 : a0 ≤ 0) (h2 : 0 ≤ a0) : False := by omega
theorem om_ca018581 {a0 a1 a2 a3 a4 : Int} (h0 : a0 < a1) (h1 : a1 ≤ 18) (h2 : a2 ≤ 4) (h3 : a2 = a3) (h4 : a4 < a3) : 4 * a0 + a4 + 45 < ((287 : Nat) : Int) := by omega
theorem om_ca2cca41 {a0 a1 : Int} (h0 : 1 ≤ a0) (h1 : a1 = 0) : a1 < a0 := by omega
theorem om_ca75e69b {a0 a1 a2 : Int} (h0 : a0 ≤ 18) (h1 : a1 < a0) (h2 : a2 ≤ 3) : 4 * a1 + a2 < ((72 : Nat) : Int) := by omega
theorem om_cad042f1 {a0 a1 a2 a3 a4 a5 : Int} (h0 : a0 ≤ a1) (h1 : a1 ≤ a2) (h2 : a2 ≤ a3) (h3 : a3 ≤ a4) (h4 : a4 + 1 ≤ a5) : a0 + 1 ≤ a5 := by omega
theorem om_cad2a9ff {a0 a1 : Int} (h0 : 0 ≤ a0) (h1 : a0 = a1) : -2 ≤ a1 := by omega
theorem om_cb0b194f {a0 a1 : Int} (h0 : a0 ≤ 17) (h1 : a0 = a1) : 143 + (8 * a1) < 2147483648 := by omega
theorem om_cb379553 {a0 : Int} (h0 : a0 ≤ 16) : a0 - 1 < 2147483648 := by omega
theorem om_cb3828ca {a0 : Int} (h0 : a0 ≤ 4) : 0 < 5 - a0 := by omega
theorem om_cbf191f8 {NV0 NV1 : Nat} {a0 : Int} (h0 : (NV0 : Int) = a0) (h1 : (NV1 : Int) = a0 + 72) : 72 + NV0 = NV1 := by omega
theorem om_cc067026 {a0 a1 : Int} (h0 : a0 = 24) : 8 * a1 + a0 = 8 * a1 + 24 := by omega
theorem om_cc27bd0e {a0 : Int} (h0 : a0 = 0) : a0 ≤ 15 := by omega
theorem om_cc317096 {a0 : Int} (h0 : a0 = 59) (h1 : a0 = 3) : False := by omega
theorem om_cc45240b {a0 a1 a2 a3 : Int} (h0 : 0 ≤ a0) (h1 : a1 ≤ 4) (h2 : 0 ≤ a2) (h3 : 0 ≤ a3) : -2147483648 ≤ (4 * a0) + ((-1) * a1 + a2 + a3) := by omega
theorem om_cc67a806 {a0 a1 a2 a3 a4 a5 : Int} (h0 : a0 = 4 * a1 + 1) (h1 : a2 ≤ a3 + a4) (h2 : a4 + a1 ≤ 4 * a1) (h3 : a5 ≤ a2 + a1) : a5 ≤ a3 + a0 := by omega
theorem om_cc8db027 {a0 a1 : Int} (h0 : 0 ≤ a0) (h1 : 0 < a1) : 0 ≤ 4 * a0 + a1 + (-1) := by omega
theorem om_ccbdd137 {a0 : Int} (h0 : a0 ≤ (-1)) (h1 : (-1) ≤ a0) : a0 = -1 := by omega
theorem om_ccd51026 {a0 a1 a2 : Int} (h0 : 0 ≤ a0) (h1 : 0 ≤ a1) (h2 : a1 ≤ a2) : 0 ≤ 4 * a0 + a2 := by omega
theorem om_cd120fc8 {a0 : Int} (h0 : a0 < 99) : 0 < 2147483647 - a0 := by omega
theorem om_cddd17b5 {a0 a1 a2 : Int} (h0 : a0 < a1) (h1 : a1 ≤ 18) (h2 : a2 ≤ 4) : (4 * a0) + a2 < 2147483648 := by omega
theorem om_ce492ef9 {a0 : Int} (h0 : a0 ≤ 3) (h1 : a0 = 3) : a0 = 3 := by omega
theorem om_ce54b0dc {a0 a1 a2 a3 a4 : Int} (h0 : a0 ≤ a1 + 4 * a2) (h1 : a3 ≤ a0 + 4) (h2 : a4 = a2 + 1) : a3 ≤ a1 + 4 * a4 := by omega
theorem om_ce900001 {a0 : Int} (h0 : a0 ≤ 65536) : 75 * a0 < 2147483648 := by omega
theorem om_ce9c42a0 {a0 a1 : Int} (h0 : a0 < 900) (h1 : a1 = a0 + 1) : a1 ≤ 2147483647 := by omega
theorem om_ceb5cb7d (n9 : Nat) : (19) + 1 ≤ 20 + (n9 + 1) := by omega
theorem om_cecd783f {a0 a1 : Int} (h0 : a0 = a1 + 1) : a0 ≤ a1 + 256 := by omega
theorem om_ced40591 {a0 a1 : Int} (h0 : 0 ≤ a0) (h1 : a0 = a1) : -2147483648 ≤ 2 * a1 := by omega
theorem om_cf082c4c {a0 : Int} (h0 : a0 ≤ 399) : a0 + 1 < 2147483648 := by omega
theorem om_cf6669ce {a0 a1 : Int} (h0 : a0 < a1) (h1 : a1 ≤ 18) : 27 + a0 < 2147483648 := by omega
theorem om_cfa15d54 {a0 a1 : Int} (h0 : a0 < 4) (h1 : a1 = a0 + 1) : a1 ≤ 4 := by omega
theorem om_cfbfc750 {a0 a1 : Int} (h0 : a0 ≤ 18) (h1 : a1 ≤ 4) : (4 * a0) + a1 < 2147483648 := by omega
theorem om_cff46e25 {a0 : Int} (h0 : a0 < 287) : 0 < 287 - a0 := by omega
theorem om_d02898fd {a0 : Int} (h0 : a0 ≤ 1350) : a0 + 1 < 2147483648 := by omega
theorem om_d0b36cfd {a0 : Int} (h0 : a0 = 0) : a0 + a0 ≤ 50 := by omega
theorem om_d0c17b76 {a0 a1 a2 a3 a4 : Int} (h0 : 0 ≤ a0) (h1 : a1 = a0) (h2 : a2 = a1) (h3 : a3 = a2) (h4 : a3 = a4) : -2147483648 ≤ a4 + 1 := by omega
theorem om_d0e465f9 {a0 a1 a2 : Int} (h0 : a0 ≤ 4) (h1 : a1 < a0) (h2 : a2 < a0) : a2 + a1 < 2147483648 := by omega
theorem om_d18b882c {a0 a1 a2 a3 a4 : Int} (h0 : a0 ≤ 936) (h1 : a1 ≤ 4) (h2 : a2 ≤ a0 + 16 * a3) (h3 : a1 = a4) (h4 : a3 < a4) : a2 ≤ 984 := by omega
theorem om_d190a11e {a0 a1 a2 a3 : Int} (h0 : a0 = 4 * a1 + 1) (h1 : a2 ≤ a3 + 4 * a1) : a2 ≤ a3 + a0 := by omega
theorem om_d1b4529d {a0 a1 a2 a3 : Int} (h0 : a0 ≤ a1) (h1 : a2 = a0 + 1) (h2 : a3 = a1 + 1) : a2 ≤ a3 := by omega
theorem om_d1d361b1 {a0 a1 a2 : Int} (h0 : a0 + a1 ≤ 1000000000) (h1 : a1 = 4 * a2 + 4) : a0 + 4 * a2 + 4 ≤ 1000000000 := by omega
theorem om_d29e507c {a0 a1 : Int} (h0 : 4 ≠ a0) (h1 : 4 ≤ a1) (h2 : a1 = a0) (h3 : a1 ≤ 4) : False := by omega
theorem om_d2c1ef0c {a0 a1 a2 : Int} (h0 : a0 ≤ 4) (h1 : a1 < a0) (h2 : a2 = a1 + 1) : a2 ≤ 4 := by omega
theorem om_d2c9edc5 {a0 a1 a2 a3 : Int} (h0 : -1 ≤ a0) (h1 : a0 < a1) (h2 : a1 = a2) (h3 : 0 ≤ a3) : 0 ≤ 4 * a2 + a3 + 45 := by omega
theorem om_d314cc90 {a0 a1 a2 : Int} (h0 : a0 ≤ 17) (h1 : a1 ≤ 4) (h2 : 0 < a2) : 4 * a0 + a1 + (-1) * a2 < ((72 : Nat) : Int) := by omega
theorem om_d38fce89 {a0 : Int} (h0 : a0 = 59) (h1 : a0 = 1) : False := by omega
theorem om_d3d33182 {a0 a1 a2 a3 : Int} (h0 : a0 ≤ 18) (h1 : a1 = a2) (h2 : a1 ≤ 4) (h3 : a3 < a2) : a3 + 4 * a0 < ((90 : Nat) : Int) := by omega
theorem om_d44262f2 {a0 a1 : Int} (h0 : 0 ≤ a0) (h1 : a0 = a1) : -2147483648 ≤ 125 + a1 := by omega
theorem om_d5382009 {a0 a1 : Int} (h0 : a0 < a1) : 0 < a1 - a0 := by omega
theorem om_d5601802 {a0 a1 : Int} (h0 : (-1) ≤ a0) (h1 : a1 = a0 + 2) : (-1) ≤ a1 := by omega
theorem om_d56d0531 {a0 a1 a2 : Int} (h0 : -8 ≤ a0) (h1 : 8 * a1 + a0 = 8 * a2 + 24) (h2 : a0 < 0) : a1 = a2 + 4 := by omega
theorem om_d623e051 {a0 a1 : Int} (h0 : a0 ≤ 17) (h1 : a1 ≤ 3) : (4 * a0 + a1) - 1 < 2147483648 := by omega
theorem om_d6392c09 {a0 a1 : Int} (h0 : a0 ≤ 4) (h1 : a1 ≤ a0) : a1 + 1 < 2147483648 := by omega
theorem om_d64d5374 {a0 a1 a2 : Int} (h0 : a0 ≤ 18) (h1 : a0 = a1) (h2 : a2 < a1) : 27 + a2 < 2147483648 := by omega
theorem om_d6e519bf {a0 a1 : Int} (h0 : 0 ≤ a0) (h1 : a0 + a1 ≤ 100) : a1 + 27 < ((287 : Nat) : Int) := by omega
theorem om_d7521cb6 {a0 a1 a2 a3 a4 : Int} (h0 : a0 ≤ a1 + a2) (h1 : a2 + a3 ≤ 4 * a3) (h2 : a4 ≤ a0 + a3) : a4 ≤ a1 + 4 * a3 := by omega
theorem om_d805ac5b {a0 a1 : Int} (h0 : a0 ≤ 4) (h1 : a1 ≤ a0) : a1 + (-1) < 2147483648 := by omega
theorem om_d83befaa {a0 a1 a2 : Int} (h0 : a0 ≤ 18) (h1 : a0 = a1) (h2 : a2 < a1) : a2 + 27 < ((287 : Nat) : Int) := by omega
theorem om_d85c86be {a0 a1 a2 : Int} (h0 : a0 < 18) (h1 : a1 < 4) (h2 : a1 = a2) : 4 * a0 + a2 < ((72 : Nat) : Int) := by omega
theorem om_d8b044df {a0 a1 : Int} (h0 : 0 ≤ a0) (h1 : a0 = a1) : 100 - a1 < 2147483648 := by omega
theorem om_d91c9d42 {a0 a1 a2 : Int} (h0 : a0 ≤ a1) (h1 : a1 ≤ 9 * a0) (h2 : 1 ≤ a2) : -2147483648 ≤ a1 + a2 := by omega
theorem om_d91d710b {a0 : Int} (h0 : a0 ≠ 2) (h1 : a0 = 2) : False := by omega
theorem om_d9534984 {a0 a1 a2 a3 : Int} (h0 : a0 ≤ a1 + a2) (h1 : a2 ≤ 4 * a3) : a0 ≤ a1 + 4 * a3 + 4 := by omega
theorem om_d99ff3f9 {a0 a1 : Int} (h0 : a0 < 4) (h1 : a1 = a0 + 1) : a1 ≤ 2147483647 := by omega
theorem om_d9be8836 {a0 a1 a2 : Int} (h0 : 0 ≤ a0) (h1 : a1 ≤ a2) : 0 ≤ 4 * a0 + a2 + (-1) * a1 := by omega
theorem om_da12a7f8 {a0 a1 a2 a3 : Int} (h0 : a0 < a1) (h1 : a1 ≤ 18) (h2 : a2 ≤ 4) (h3 : a3 ≤ a2) : (4 * a0) + a3 < 2147483648 := by omega
theorem om_da32013a {a0 a1 : Int} (h0 : a0 < 18) (h1 : a1 < 4) : 4 * a0 + a1 < ((72 : Nat) : Int) := by omega
theorem om_da6e91bb {a0 : Int} (h0 : a0 ≤ 10) : a0 + (-1) < 2147483648 := by omega
theorem om_da77bcef {a0 a1 a2 : Int} (h0 : 0 ≤ a0) (h1 : a0 + a1 ≤ 8) (h2 : a2 ≤ a1) : a2 + 1 < 2147483648 := by omega
theorem om_da9595ee {a0 a1 : Int} (h0 : 0 ≤ a0) (h1 : 0 ≤ a1) : 0 ≤ a0 + a1 := by omega
theorem om_daf17c64 {a0 : Int} (h0 : a0 = 0) : a0 ≤ 2147483647 := by omega
theorem om_db56e044 (n9 : Nat) : 8 + (11 + 11) + (10 + 30 * n9) ≤ 10 + 30 * (n9 + 1) := by omega
theorem om_dbb1b72e {NV0 NV1 : Nat} {a0 : Int} (h0 : (NV0 : Int) = a0) (h1 : (NV1 : Int) = 2 * a0 + 117) : 117 + 2 * NV0 = NV1 := by omega
theorem om_dbc1d1d5 {a0 a1 : Int} (h0 : a0 ≤ 12) (h1 : a1 = a0 + 1) : a1 ≤ 13 := by omega
theorem om_dc0ac3c6 {a0 : Int} (h0 : 0 ≤ a0) : -2147483648 ≤ (4 * a0) + 0 := by omega
theorem om_dc317686 {a0 a1 : Int} (h0 : a0 = 1) (h1 : a1 = 9) : a0 ≤ a1 := by omega
theorem om_dc41b317 {a0 a1 a2 a3 a4 : Int} (h0 : a0 ≤ a1) (h1 : a1 ≤ a2) (h2 : a2 ≤ a3) (h3 : a3 ≤ a4) : a0 ≤ a4 := by omega
theorem om_dcc527d7 {a0 a1 a2 a3 : Int} (h0 : -1 ≤ a0) (h1 : a0 < a1) (h2 : a1 = a2) (h3 : 0 ≤ a3) : 0 ≤ 4 * a2 + a3 := by omega
theorem om_dcd74bf2 {a0 a1 a2 a3 a4 a5 : Int} (h0 : a0 ≤ a1) (h1 : a1 ≤ a2) (h2 : a2 ≤ a3) (h3 : a3 ≤ a4) (h4 : a4 ≤ a5) : a0 ≤ a5 := by omega
theorem om_dd0f51e3 {a0 a1 : Int} (h0 : a0 < a1) (h1 : a1 ≤ 18) : 45 + (4 * a0) < 2147483648 := by omega
theorem om_dd31f364 {a0 a1 : Int} (h0 : a0 ≤ 4) (h1 : a0 = a1) : 2 * a1 + 118 < ((287 : Nat) : Int) := by omega
theorem om_dd448aec {a0 : Int} (h0 : a0 = (-1)) : a0 ≤ 3 := by omega
theorem om_dd4ae0bc {a0 a1 a2 : Int} (h0 : a0 = a1 + 1) : a2 - a0 < a2 - a1 := by omega
theorem om_dd50ccc5 {a0 a1 a2 : Int} (h0 : a0 ≤ a1) (h1 : a2 = a1 + 1) : a0 ≤ a2 := by omega
theorem om_dd968ed2 {a0 : Int} (h0 : 0 ≤ a0) : -2147483648 ≤ a0 + (-1) := by omega
theorem om_dddf7058 {a0 a1 a2 a3 a4 a5 : Int} (h0 : a0 ≤ a1 + a2) (h1 : a4 ≤ a0 + a3) (h2 : a5 = a2 + a3) : a4 ≤ a1 + a5 := by omega
theorem om_de94ac6e {a0 : Int} (h0 : 15 ≤ a0) : 0 ≤ a0 := by omega
theorem om_de9c7a5f {a0 a1 a2 : Int} (h0 : a0 + a1 ≤ 1000000000) (h1 : a1 = 4 * a2 + 4) : a0 + 4 * a2 ≤ 1000000000 := by omega
theorem om_df8c7ace {a0 : Int} (h0 : 0 ≤ a0) : -2147483648 ≤ (a0 + 1) - 1 := by omega
theorem om_df9fe5f8 {a0 a1 a2 a3 : Int} (h0 : a0 ≤ 17) (h1 : a1 ≤ 4) (h2 : a2 < a1) (h3 : a3 < a1) : (4 * a0) + (a2 + a3) < 2147483648 := by omega
theorem om_dffc3195 {a0 a1 : Int} (h0 : a0 ≤ 17) (h1 : a0 = a1) : a1 + 9 < ((287 : Nat) : Int) := by omega
theorem om_e01513d4 {a0 a1 : Int} (h0 : 0 ≤ a0) (h1 : a0 = a1) : 0 ≤ 2 * a1 + 117 := by omega
theorem om_e0241e09 {a0 : Int} (h0 : a0 < 16) : 0 < 16 - a0 := by omega
theorem om_e0383f7a {a0 : Int} (h0 : 0 ≤ a0) : -2147483648 ≤ (a0 + (-1)) + 1 := by omega
theorem om_e077b392 {a0 a1 : Int} (h0 : a0 < 100) (h1 : a1 = a0 + 1) : a1 ≤ 100 := by omega
theorem om_e0faef24 {a0 : Int} (h0 : a0 = 0) : a0 ≤ 5 := by omega
theorem om_e159f70e {a0 : Int} (h0 : a0 < 8) : a0 < ((8 : Nat) : Int) := by omega
theorem om_e1605147 {a0 a1 a2 : Int} (h0 : a0 + a1 ≤ 1440) (h1 : a2 < a1) : a0 + a2 < ((1440 : Nat) : Int) := by omega
theorem om_e18414e1 {a0 a1 a2 a3 : Int} (h0 : a0 = a1) (h1 : a0 ≤ 4) (h2 : a2 < a1) (h3 : a3 = a2 + 1) : a3 ≤ 2147483647 := by omega
theorem om_e189c7a1 (n9 : Nat) : 8 + (2 + 11) + (0) ≤ 60 * (n9 + 1) + 110 := by omega
theorem om_e1cf8ff9 {a0 : Int} (h0 : a0 ≤ 16) : (a0 + (-1)) + 1 < 2147483648 := by omega
theorem om_e20cec48 {a0 a1 a2 a3 : Int} (h0 : a0 ≤ 18) (h1 : a1 < a0) (h2 : a2 ≤ 4) (h3 : a3 < a2) : 4 * a1 + a3 < ((72 : Nat) : Int) := by omega
theorem om_e273fdea {a0 a1 a2 : Int} (h0 : a0 < a1) (h1 : a2 ≤ 2147483647) : (a0 + a2) - a1 < 2147483648 := by omega
theorem om_e2f8b50b {a0 a1 : Int} (h0 : a0 ≤ 18) (h1 : a1 < a0) : a1 + 9 < ((287 : Nat) : Int) := by omega
theorem om_e3003f79 {a0 : Int} (h0 : a0 ≠ 0) (h1 : 0 ≤ a0) : (-1) * a0 + 1 ≤ 0 := by omega
theorem om_e300f428 {a0 : Int} (h0 : a0 < 1350) : 0 < 1350 - a0 := by omega
theorem om_e30276bb {a0 a1 a2 a3 a4 a5 : Int} (h0 : a0 ≤ 9 * a1) (h1 : a2 = a3) (h2 : a2 ≤ 9) (h3 : a4 = a3 + a0) (h4 : a5 = a1 + 1) : a4 ≤ 9 * a5 := by omega
theorem om_e30c89be {a0 a1 : Int} (h0 : a0 ≤ 4) (h1 : a1 = a0 + 1) : a1 ≤ 5 := by omega
theorem om_e31e6d0e {a0 : Int} (h0 : a0 ≤ 4) : 2 * a0 < 2147483648 := by omega
theorem om_e3219df6 {a0 a1 a2 a3 : Int} (h0 : a0 < a1) (h1 : a1 ≤ 18) (h2 : a2 ≤ 4) (h3 : a3 < a2) : (4 * a0) + a3 < 2147483648 := by omega
theorem om_e3b39179 {a0 : Int} (h0 : a0 = 2) (h1 : a0 = 1) : False := by omega
theorem om_e40ce882 {a0 a1 a2 : Int} (h0 : a0 ≤ 4) (h1 : a1 ≤ a0) (h2 : a2 < a1 + (-1)) : a2 + 1 < 2147483648 := by omega
theorem om_e42db974 {a0 a1 : Int} (h0 : a0 = a1 + (-1)) : a0 - 0 < a1 - 0 := by omega
theorem om_e434855a {a0 a1 : Int} (h0 : 0 ≤ a0) (h1 : a0 = a1) : -2147483648 ≤ 8 * a1 := by omega
theorem om_e4609cf4 {a0 a1 a2 a3 a4 : Int} (h0 : a0 ≤ a1) (h1 : 1 ≤ a2) (h2 : a3 = a2 + a1) (h3 : a4 = a0 + 1) : a4 ≤ a3 := by omega
theorem om_e46da0c1 (n9 : Nat) : 8 + (4 + 11) + (10 + 25 * n9) ≤ 10 + 25 * (n9 + 1) := by omega
theorem om_e4be4046 {a0 a1 a2 : Int} (h0 : a0 ≤ 4) (h1 : a0 = a1) (h2 : a2 < a1) : 0 < 4 - a2 := by omega
theorem om_e4dc4d0f {a0 a1 : Int} (h0 : a0 = a1) (h1 : 0 ≤ a0) : -2147483648 ≤ a1 - 1 := by omega
theorem om_e50b0a87 {a0 : Int} (h0 : 0 ≤ a0) : -2147483648 ≤ a0 + 90 := by omega
theorem om_e51e3a41 {a0 a1 : Int} (h0 : a0 < 4) (h1 : a1 ≤ a0) : 10 * a1 < 2147483648 := by omega
theorem om_e5849f50 {a0 a1 : Int} (h0 : a0 = a1 + 1) : 100 - a0 < 100 - a1 := by omega
theorem om_e65a73c2 {a0 : Int} (h0 : 0 ≤ a0) : -2147483648 ≤ a0 - 1 := by omega
theorem om_e671a815 {a0 : Int} (h0 : a0 ≤ 16) : a0 + (-1) < ((16 : Nat) : Int) := by omega
theorem om_e6b4152f {a0 : Int} (h0 : a0 ≤ 18) : a0 + 27 < ((287 : Nat) : Int) := by omega
theorem om_e6df038c {a0 a1 : Int} (h0 : a0 ≤ 399) (h1 : a1 < a0) : a1 + 1 < 2147483648 := by omega
theorem om_e729ca1a {a0 a1 : Int} (h0 : a0 ≤ 99) (h1 : a1 ≤ 99) : (a0 + a1) + 1 < 2147483648 := by omega
theorem om_e7bc4510 {a0 : Int} (h0 : a0 < 18) : 0 < 18 - a0 := by omega
theorem om_e7f5d8f5 {a0 a1 a2 : Int} (h0 : 0 ≤ a0) (h1 : a0 + a1 ≤ 90) (h2 : a2 ≤ a1) : a2 + 1 < 2147483648 := by omega
theorem om_e7fed2a5 {a0 a1 a2 a3 a4 : Int} (h0 : a0 < a1) (h1 : a2 < a3) (h2 : a1 ≤ 18) (h3 : a3 ≤ 4) (h4 : a4 ≤ a2) : (4 * a0) + a4 < 2147483648 := by omega
theorem om_e8092c1f {a0 : Int} (h0 : a0 ≤ 13) : a0 + 1 < 2147483648 := by omega
theorem om_e84fc5c4 {a0 a1 : Int} (h0 : a0 = 16) (h1 : a1 = 90 * a0 + (-90)) : 0 ≤ a1 := by omega
theorem om_e8b35f0d {a0 a1 : Int} (h0 : 2 ≤ a0) (h1 : a1 = a0 + 1) : 2 ≤ a1 := by omega
theorem om_e8bb4c56 {a0 : Int} (h0 : a0 ≤ 16) : 90 * a0 < 2147483648 := by omega
theorem om_e952d4d4 {a0 a1 : Int} (h0 : 0 ≤ a0) (h1 : a1 = 90 * a0) : 0 ≤ a1 := by omega
theorem om_eac0354e {a0 a1 : Int} (h0 : a0 < a1) (h1 : a1 ≤ 18) : 4 * a0 < 2147483648 := by omega
theorem om_eaf66da5 {a0 a1 a2 : Int} (h0 : a0 = (10 * a1) + a2) : a0 = 10 * a1 + a2 := by omega
theorem om_eaf6b467 {a0 : Int} (h0 : a0 ≤ 15) : a0 < ((16 : Nat) : Int) := by omega
theorem om_eb349e14 {a0 : Int} (h0 : 0 ≤ a0) : (-2) ≤ a0 := by omega
theorem om_eb9f82f8 {a0 : Int} (h0 : 0 ≤ a0) : -2147483648 ≤ (2 * a0 + 117) + 1 := by omega
theorem om_ec9d7b39 {a0 : Int} (h0 : a0 = 0) : 0 < 2147483647 - a0 := by omega
theorem om_ecc37d4d {a0 a1 : Int} (h0 : (-2147483648) ≤ a0) (h1 : a1 = a0 + 1) : (-2147483648) ≤ a1 := by omega
theorem om_ed03f020 {a0 a1 : Int} (h0 : a0 = 0) : a1 = a1 + a0 := by omega
theorem om_ed22490e {a0 a1 : Int} (h0 : a0 = a1 + 1) : 4 - a0 < 4 - a1 := by omega
theorem om_ed5512fd {a0 : Int} (h0 : a0 < 16) : a0 < ((16 : Nat) : Int) := by omega
theorem om_ed5dcb39 {a0 : Int} (h0 : a0 ≤ 18) : 125 + a0 < 2147483648 := by omega
theorem om_ed8867da {a0 a1 a2 : Int} (h0 : a0 ≤ 18) (h1 : a1 < a0) (h2 : a2 = a1 + 1) : a2 ≤ 2147483647 := by omega
theorem om_edaa55be (n9 : Nat) : 8 + (7 + 11) + (60 * n9 + 110) ≤ 60 * n9 + 136 := by omega
theorem om_edbe2e4c {a0 : Int} (h0 : 0 ≤ a0) : 0 ≤ a0 + 9 := by omega
theorem om_edd3f7cf {a0 : Int} (h0 : 0 ≤ a0) : -2147483648 ≤ 27 + a0 := by omega
theorem om_ee32bb4e {a0 a1 : Int} (h0 : a0 = a1 + 1) : a0 ≤ a1 + 64 := by omega
theorem om_ee52c0ad {a0 a1 : Int} (h0 : a0 ≤ 18) (h1 : a1 < a0) : 4 * a1 < ((90 : Nat) : Int) := by omega
theorem om_eee38cbd (n9 : Nat) : (2 * n9 + 5) + 1 ≤ 2 * (n9 + 1) + 4 := by omega
theorem om_ef44811a {a0 a1 a2 a3 : Int} (h0 : a0 < a1) (h1 : a2 < a3) (h2 : a1 ≤ 18) (h3 : a3 ≤ 4) : (4 * a0) + a2 < 2147483648 := by omega
theorem om_f00a3f09 {a0 a1 a2 : Int} (h0 : a0 ≤ 4) (h1 : a1 ≤ a0) (h2 : a2 < a1 + (-1)) : 0 < 2147483647 - a2 := by omega
theorem om_f01a954b {a0 : Int} (h0 : a0 < 900) : a0 < ((900 : Nat) : Int) := by omega
theorem om_f028b7c4 {a0 a1 : Int} (h0 : a0 = 0) (h1 : a1 = 100) : a0 ≤ a1 := by omega
theorem om_f04fb0e3 {a0 : Int} (h0 : a0 = 0) : a0 ≤ 8 := by omega
theorem om_f05dbf42 {a0 a1 a2 : Int} (h0 : a0 ≤ 4) (h1 : a1 ≤ a2 + a0) : a1 ≤ a2 + 4 := by omega
theorem om_f11f82a1 {a0 a1 a2 : Int} (h0 : a0 ≤ a1) (h1 : a2 = a0 + (-1)) : a2 ≤ a1 := by omega
theorem om_f1a4085e {a0 : Int} (h0 : a0 ≤ 399) : a0 < ((800 : Nat) : Int) := by omega
theorem om_f21b86dc {a0 : Int} (h0 : a0 ≤ 4) : 2 * a0 + 117 < ((287 : Nat) : Int) := by omega
theorem om_f24caf23 {a0 a1 : Int} (h0 : 0 ≤ a0) (h1 : a0 ≤ a1) : -2147483648 ≤ a1 + 1 := by omega
theorem om_f2773e13 {a0 : Int} (h0 : 0 ≤ a0) : 0 ≤ a0 + 90 := by omega
theorem om_f382d077 {a0 : Int} (h0 : a0 < 10) : a0 < ((10 : Nat) : Int) := by omega
theorem om_f3a1bb8f {a0 a1 a2 : Int} (h0 : a0 ≤ 16) (h1 : a1 = 90 * a0 + (-90)) (h2 : a2 = 90) : a1 + a2 ≤ 1440 := by omega
theorem om_f4219488 {a0 a1 : Int} (h0 : a0 = a1) (h1 : a0 ≤ 9) : a1 ≤ 9 := by omega
theorem om_f4400bad {NV0 : Nat} {a0 a1 a2 a3 : Int} (h0 : (NV0 : Int) = 4 * a0 + a1 + 45) (h1 : -1 ≤ a2) (h2 : a2 < a3) (h3 : a3 = a0) (h4 : 0 ≤ a1) : 8 < NV0 := by omega
theorem om_f4a2fa96 {a0 a1 a2 a3 : Int} (h0 : a0 ≤ 18) (h1 : a1 = a2) (h2 : a1 ≤ 4) (h3 : a3 ≤ a2) : (4 * a0) + a3 < 2147483648 := by omega
theorem om_f4bc4b48 {a0 : Int} (h0 : 0 ≤ a0) : 0 ≤ 90 * a0 := by omega
theorem om_f4c329c8 {a0 a1 : Int} (h0 : a0 ≤ 399) (h1 : a1 < a0) : 0 < 2147483647 - a1 := by omega
theorem om_f4cefd80 {a0 a1 a2 : Int} (h0 : a0 ≤ 17) (h1 : a1 ≤ 4) (h2 : 0 ≤ a2) : (4 * a0 + a1) - a2 < 2147483648 := by omega
theorem om_f4fb5b9a {a0 : Int} (h0 : a0 = 0) : a0 + 1 < 2147483648 := by omega
theorem om_f54fd04d {a0 a1 a2 : Int} (h0 : a0 = a1) (h1 : a0 ≤ 4) (h2 : a2 ≤ a1) : a2 + 1 < 2147483648 := by omega
theorem om_f5e430c4 {a0 : Int} (h0 : a0 ≤ 16) : a0 + 1 < 2147483648 := by omega
theorem om_f5ef1b4a {a0 a1 : Int} (h0 : a0 < a1) (h1 : a1 ≤ 18) : 72 + a0 < 2147483648 := by omega
theorem om_f63ec340 {a0 a1 : Int} (h0 : a0 < 99) (h1 : a1 = a0 + 1) : a1 ≤ 2147483647 := by omega
theorem om_f64b50cd {a0 : Int} (h0 : 1 ≤ a0) : -2147483648 ≤ 50 * a0 := by omega
theorem om_f6704f69 {a0 a1 : Int} (h0 : a0 = (75 * a1) + 74) : a0 = 75 * a1 + 74 := by omega
theorem om_f6cbc066 {a0 a1 a2 a3 a4 : Int} (h0 : a0 ≤ 744) (h1 : a1 ≤ 4) (h2 : a2 ≤ a0 + 64 * a3) (h3 : a1 = a4) (h4 : a3 < a4) : a2 ≤ 936 := by omega
theorem om_f71e9566 {a0 a1 a2 : Int} (h0 : 0 ≤ a0) (h1 : a1 = 4 * a0 + 4) : a2 ≤ a2 + a1 := by omega
theorem om_f728cf40 {NV0 NV1 : Nat} {a0 : Int} (h0 : (NV0 : Int) = a0) (h1 : (NV1 : Int) = a0 + 125) : 125 + NV0 = NV1 := by omega
theorem om_f75b28c2 (n9 : Nat) : (2 * n9 + 6) + 1 ≤ 2 * (n9 + 1) + 6 := by omega
theorem om_f7d4aae6 {a0 : Int} (h0 : (-2147483648) ≤ a0) : -2147483648 ≤ a0 + 1 := by omega
theorem om_f8183f64 {a0 : Int} (h0 : a0 ≤ 1296) : 50 * a0 < 2147483648 := by omega
theorem om_f89e079b {a0 a1 a2 a3 : Int} (h0 : a0 ≤ 4) (h1 : a1 ≤ a0) (h2 : a2 < a1 + (-1)) (h3 : a3 = a2 + 1) : a3 ≤ 2147483647 := by omega
theorem om_f8f5d26c (n9 : Nat) : 8 + (1 + 11) + (0) ≤ 60 * n9 + 136 := by omega
theorem om_f952f00e {a0 a1 a2 : Int} (h0 : 12 - a0 < a1) (h1 : a2 = a0 + 1) : 13 - a2 < a1 := by omega
theorem om_f992525b {a0 : Int} (h0 : a0 ≠ 0) (h1 : a0 = 0) : a0 + 1 ≤ 0 := by omega
theorem om_fa438e65 {a0 a1 a2 : Int} (h0 : a0 + a1 ≤ 1000000000) (h1 : 0 ≤ a2) (h2 : a1 = 4 * a2 + 1) : a0 + 1 ≤ 1000000000 := by omega
theorem om_facfc055 {a0 a1 : Int} (h0 : a0 < 10) (h1 : a1 = a0 + 1) : a1 ≤ 2147483647 := by omega
theorem om_faed9c11 {a0 a1 a2 : Int} (h0 : a0 ≤ 10) (h1 : a1 = a0) (h2 : a1 = a2) : a2 + 1 < 2147483648 := by omega
theorem om_fbb6b5f5 {a0 a1 : Int} (h0 : a0 ≤ 4) (h1 : a1 < a0) : 0 < 4 - a1 := by omega
theorem om_fbbe21e8 {a0 a1 a2 a3 a4 : Int} (h0 : a0 ≤ 17) (h1 : a1 = a0) (h2 : a2 = a1) (h3 : a3 = a2) (h4 : a3 = a4) : a4 + 1 < 2147483648 := by omega
theorem om_fc15996e {a0 a1 : Int} (h0 : a0 ≤ 18) (h1 : a0 = a1) : a1 - 1 < 2147483648 := by omega
theorem om_fc2812d4 {a0 a1 : Int} (h0 : 0 ≤ a0) (h1 : 0 ≤ a1) : 0 ≤ 4 * a0 + a1 := by omega
theorem om_fc402184 {a0 a1 a2 a3 a4 : Int} (h0 : a0 < a1) (h1 : a1 ≤ 18) (h2 : a2 ≤ 4) (h3 : a2 = a3) (h4 : a4 < a3) : (4 * a0) + a4 < 2147483648 := by omega
theorem om_fc5b453a {a0 a1 a2 : Int} (h0 : a0 ≤ a1) (h1 : a2 = a1 + 1) : a0 + 1 ≤ a2 := by omega
theorem om_fce5e355 {a0 a1 a2 a3 : Int} (h0 : a0 < a1) (h1 : a2 < a3) (h2 : a1 ≤ 18) (h3 : a3 ≤ 4) : 4 * a0 + a2 < ((90 : Nat) : Int) := by omega
theorem om_fdd59aa4 {a0 a1 : Int} (h0 : 0 ≤ a0) (h1 : 0 ≤ a1) : 0 ≤ 8 * a0 + a1 + 143 := by omega
theorem om_fee42a6d {a0 : Int} (h0 : a0 = 8) : 0 ≤ a0 := by omega
theorem om_fefced54 {a0 : Int} (h0 : a0 = (-2)) : a0 ≤ 3 := by omega
theorem om_ff61d3c6 {a0 : Int} (h0 : a0 ≤ 18) : 9 + a0 < 2147483648 := by omega
theorem om_ff716d49 {NV0 NV1 NV2 : Nat} {a0 a1 : Int} (h0 : (NV0 : Int) = a0) (h1 : (NV1 : Int) = a1) (h2 : (NV2 : Int) = 8 * a0 + a1 + 143) : 143 + 8 * NV0 + NV1 = NV2 := by omega
theorem om_ffe800b0 {a0 a1 a2 : Int} (h0 : a0 < 4) (h1 : a1 ≤ a0) (h2 : a2 < 2) : (10 * a1) + a2 < 2147483648 := by omega
theorem ds_yJ6_bitCount_0f7a4_1 : yJ6_bitCount_0f7a4.cls ≠ "java/lang/invoke/MethodHandle" ∧ yJ6_bitCount_0f7a4.cls ≠ "java/lang/invoke/VarHandle" ∧ (parseMethodDescriptor yJ6_bitCount_0f7a4.desc).map (fun d => d.parameters.length) = some 1 := by decide +kernel
theorem dv_yX0_dropOldest_0 : yX0_dropOldest.cls = RX0 ∧ yX0_dropOldest.cls ≠ "java/lang/invoke/MethodHandle" ∧ yX0_dropOldest.cls ≠ "java/lang/invoke/VarHandle" ∧ (parseMethodDescriptor yX0_dropOldest.desc).map (fun d => d.parameters.length) = some 0 := ⟨rfl, by decide +kernel⟩
theorem dv_yX0_forget_0 : yX0_forget.cls = RX0 ∧ yX0_forget.cls ≠ "java/lang/invoke/MethodHandle" ∧ yX0_forget.cls ≠ "java/lang/invoke/VarHandle" ∧ (parseMethodDescriptor yX0_forget.desc).map (fun d => d.parameters.length) = some 0 := ⟨rfl, by decide +kernel⟩
theorem dv_yX0_keep_3 : yX0_keep.cls = RX0 ∧ yX0_keep.cls ≠ "java/lang/invoke/MethodHandle" ∧ yX0_keep.cls ≠ "java/lang/invoke/VarHandle" ∧ (parseMethodDescriptor yX0_keep.desc).map (fun d => d.parameters.length) = some 3 := ⟨rfl, by decide +kernel⟩
theorem dv_yX0_takeBack_1 : yX0_takeBack.cls = RX0 ∧ yX0_takeBack.cls ≠ "java/lang/invoke/MethodHandle" ∧ yX0_takeBack.cls ≠ "java/lang/invoke/VarHandle" ∧ (parseMethodDescriptor yX0_takeBack.desc).map (fun d => d.parameters.length) = some 1 := ⟨rfl, by decide +kernel⟩
theorem dv_yX1_addPart_2 : yX1_addPart.cls = RX1 ∧ yX1_addPart.cls ≠ "java/lang/invoke/MethodHandle" ∧ yX1_addPart.cls ≠ "java/lang/invoke/VarHandle" ∧ (parseMethodDescriptor yX1_addPart.desc).map (fun d => d.parameters.length) = some 2 := ⟨rfl, by decide +kernel⟩
theorem dv_yX1_addUnsure_2 : yX1_addUnsure.cls = RX1 ∧ yX1_addUnsure.cls ≠ "java/lang/invoke/MethodHandle" ∧ yX1_addUnsure.cls ≠ "java/lang/invoke/VarHandle" ∧ (parseMethodDescriptor yX1_addUnsure.desc).map (fun d => d.parameters.length) = some 2 := ⟨rfl, by decide +kernel⟩
theorem dv_yX1_allLikelihood_0 : yX1_allLikelihood.cls = RX1 ∧ yX1_allLikelihood.cls ≠ "java/lang/invoke/MethodHandle" ∧ yX1_allLikelihood.cls ≠ "java/lang/invoke/VarHandle" ∧ (parseMethodDescriptor yX1_allLikelihood.desc).map (fun d => d.parameters.length) = some 0 := ⟨rfl, by decide +kernel⟩
theorem dv_yX1_beginNode_1 : yX1_beginNode.cls = RX1 ∧ yX1_beginNode.cls ≠ "java/lang/invoke/MethodHandle" ∧ yX1_beginNode.cls ≠ "java/lang/invoke/VarHandle" ∧ (parseMethodDescriptor yX1_beginNode.desc).map (fun d => d.parameters.length) = some 1 := ⟨rfl, by decide +kernel⟩
theorem dv_yX1_clear_0 : yX1_clear.cls = RX1 ∧ yX1_clear.cls ≠ "java/lang/invoke/MethodHandle" ∧ yX1_clear.cls ≠ "java/lang/invoke/VarHandle" ∧ (parseMethodDescriptor yX1_clear.desc).map (fun d => d.parameters.length) = some 0 := ⟨rfl, by decide +kernel⟩
theorem dv_yX1_endNode_1 : yX1_endNode.cls = RX1 ∧ yX1_endNode.cls ≠ "java/lang/invoke/MethodHandle" ∧ yX1_endNode.cls ≠ "java/lang/invoke/VarHandle" ∧ (parseMethodDescriptor yX1_endNode.desc).map (fun d => d.parameters.length) = some 1 := ⟨rfl, by decide +kernel⟩
theorem dv_yX1_hasNode_1 : yX1_hasNode.cls = RX1 ∧ yX1_hasNode.cls ≠ "java/lang/invoke/MethodHandle" ∧ yX1_hasNode.cls ≠ "java/lang/invoke/VarHandle" ∧ (parseMethodDescriptor yX1_hasNode.desc).map (fun d => d.parameters.length) = some 1 := ⟨rfl, by decide +kernel⟩
theorem dv_yX1_hasRoomFor_1 : yX1_hasRoomFor.cls = RX1 ∧ yX1_hasRoomFor.cls ≠ "java/lang/invoke/MethodHandle" ∧ yX1_hasRoomFor.cls ≠ "java/lang/invoke/VarHandle" ∧ (parseMethodDescriptor yX1_hasRoomFor.desc).map (fun d => d.parameters.length) = some 1 := ⟨rfl, by decide +kernel⟩
theorem dv_yX1_hasRoomForPart_0 : yX1_hasRoomForPart.cls = RX1 ∧ yX1_hasRoomForPart.cls ≠ "java/lang/invoke/MethodHandle" ∧ yX1_hasRoomForPart.cls ≠ "java/lang/invoke/VarHandle" ∧ (parseMethodDescriptor yX1_hasRoomForPart.desc).map (fun d => d.parameters.length) = some 0 := ⟨rfl, by decide +kernel⟩
theorem dv_yX1_hasWord_1 : yX1_hasWord.cls = RX1 ∧ yX1_hasWord.cls ≠ "java/lang/invoke/MethodHandle" ∧ yX1_hasWord.cls ≠ "java/lang/invoke/VarHandle" ∧ (parseMethodDescriptor yX1_hasWord.desc).map (fun d => d.parameters.length) = some 1 := ⟨rfl, by decide +kernel⟩
theorem dv_yX1_isUnsure_1 : yX1_isUnsure.cls = RX1 ∧ yX1_isUnsure.cls ≠ "java/lang/invoke/MethodHandle" ∧ yX1_isUnsure.cls ≠ "java/lang/invoke/VarHandle" ∧ (parseMethodDescriptor yX1_isUnsure.desc).map (fun d => d.parameters.length) = some 1 := ⟨rfl, by decide +kernel⟩
theorem dv_yX1_likelihood_1 : yX1_likelihood.cls = RX1 ∧ yX1_likelihood.cls ≠ "java/lang/invoke/MethodHandle" ∧ yX1_likelihood.cls ≠ "java/lang/invoke/VarHandle" ∧ (parseMethodDescriptor yX1_likelihood.desc).map (fun d => d.parameters.length) = some 1 := ⟨rfl, by decide +kernel⟩
theorem dv_yX1_placeOfPart_2 : yX1_placeOfPart.cls = RX1 ∧ yX1_placeOfPart.cls ≠ "java/lang/invoke/MethodHandle" ∧ yX1_placeOfPart.cls ≠ "java/lang/invoke/VarHandle" ∧ (parseMethodDescriptor yX1_placeOfPart.desc).map (fun d => d.parameters.length) = some 2 := ⟨rfl, by decide +kernel⟩
theorem dv_yX1_unsureSets_0 : yX1_unsureSets.cls = RX1 ∧ yX1_unsureSets.cls ≠ "java/lang/invoke/MethodHandle" ∧ yX1_unsureSets.cls ≠ "java/lang/invoke/VarHandle" ∧ (parseMethodDescriptor yX1_unsureSets.desc).map (fun d => d.parameters.length) = some 0 := ⟨rfl, by decide +kernel⟩
theorem ds_yX2_aboveAll_1 : yX2_aboveAll.cls ≠ "java/lang/invoke/MethodHandle" ∧ yX2_aboveAll.cls ≠ "java/lang/invoke/VarHandle" ∧ (parseMethodDescriptor yX2_aboveAll.desc).map (fun d => d.parameters.length) = some 1 := by decide +kernel
theorem dv_yX2_askByHalves_2 : yX2_askByHalves.cls = RX2 ∧ yX2_askByHalves.cls ≠ "java/lang/invoke/MethodHandle" ∧ yX2_askByHalves.cls ≠ "java/lang/invoke/VarHandle" ∧ (parseMethodDescriptor yX2_askByHalves.desc).map (fun d => d.parameters.length) = some 2 := ⟨rfl, by decide +kernel⟩
theorem dv_yX2_asked_3 : yX2_asked.cls = RX2 ∧ yX2_asked.cls ≠ "java/lang/invoke/MethodHandle" ∧ yX2_asked.cls ≠ "java/lang/invoke/VarHandle" ∧ (parseMethodDescriptor yX2_asked.desc).map (fun d => d.parameters.length) = some 3 := ⟨rfl, by decide +kernel⟩
theorem dv_yX2_begin_0 : yX2_begin.cls = RX2 ∧ yX2_begin.cls ≠ "java/lang/invoke/MethodHandle" ∧ yX2_begin.cls ≠ "java/lang/invoke/VarHandle" ∧ (parseMethodDescriptor yX2_begin.desc).map (fun d => d.parameters.length) = some 0 := ⟨rfl, by decide +kernel⟩
theorem dv_yX2_breathsFreely_2 : yX2_breathsFreely.cls = RX2 ∧ yX2_breathsFreely.cls ≠ "java/lang/invoke/MethodHandle" ∧ yX2_breathsFreely.cls ≠ "java/lang/invoke/VarHandle" ∧ (parseMethodDescriptor yX2_breathsFreely.desc).map (fun d => d.parameters.length) = some 2 := ⟨rfl, by decide +kernel⟩
theorem dv_yX2_cutPartAt_1 : yX2_cutPartAt.cls = RX2 ∧ yX2_cutPartAt.cls ≠ "java/lang/invoke/MethodHandle" ∧ yX2_cutPartAt.cls ≠ "java/lang/invoke/VarHandle" ∧ (parseMethodDescriptor yX2_cutPartAt.desc).map (fun d => d.parameters.length) = some 1 := ⟨rfl, by decide +kernel⟩
theorem dv_yX2_hearWithin_4 : yX2_hearWithin.cls = RX2 ∧ yX2_hearWithin.cls ≠ "java/lang/invoke/MethodHandle" ∧ yX2_hearWithin.cls ≠ "java/lang/invoke/VarHandle" ∧ (parseMethodDescriptor yX2_hearWithin.desc).map (fun d => d.parameters.length) = some 4 := ⟨rfl, by decide +kernel⟩
theorem dv_yX2_isSoMuch_5 : yX2_isSoMuch.cls = RX2 ∧ yX2_isSoMuch.cls ≠ "java/lang/invoke/MethodHandle" ∧ yX2_isSoMuch.cls ≠ "java/lang/invoke/VarHandle" ∧ (parseMethodDescriptor yX2_isSoMuch.desc).map (fun d => d.parameters.length) = some 5 := ⟨rfl, by decide +kernel⟩
theorem dv_yX2_listen_6 : yX2_listen.cls = RX2 ∧ yX2_listen.cls ≠ "java/lang/invoke/MethodHandle" ∧ yX2_listen.cls ≠ "java/lang/invoke/VarHandle" ∧ (parseMethodDescriptor yX2_listen.desc).map (fun d => d.parameters.length) = some 6 := ⟨rfl, by decide +kernel⟩
theorem dv_yX2_listenToChance_4 : yX2_listenToChance.cls = RX2 ∧ yX2_listenToChance.cls ≠ "java/lang/invoke/MethodHandle" ∧ yX2_listenToChance.cls ≠ "java/lang/invoke/VarHandle" ∧ (parseMethodDescriptor yX2_listenToChance.desc).map (fun d => d.parameters.length) = some 4 := ⟨rfl, by decide +kernel⟩
theorem dv_yX2_listenToRuler_6 : yX2_listenToRuler.cls = RX2 ∧ yX2_listenToRuler.cls ≠ "java/lang/invoke/MethodHandle" ∧ yX2_listenToRuler.cls ≠ "java/lang/invoke/VarHandle" ∧ (parseMethodDescriptor yX2_listenToRuler.desc).map (fun d => d.parameters.length) = some 6 := ⟨rfl, by decide +kernel⟩
theorem dv_yX2_noteCuts_4 : yX2_noteCuts.cls = RX2 ∧ yX2_noteCuts.cls ≠ "java/lang/invoke/MethodHandle" ∧ yX2_noteCuts.cls ≠ "java/lang/invoke/VarHandle" ∧ (parseMethodDescriptor yX2_noteCuts.desc).map (fun d => d.parameters.length) = some 4 := ⟨rfl, by decide +kernel⟩
theorem dv_yX2_noteWord_1 : yX2_noteWord.cls = RX2 ∧ yX2_noteWord.cls ≠ "java/lang/invoke/MethodHandle" ∧ yX2_noteWord.cls ≠ "java/lang/invoke/VarHandle" ∧ (parseMethodDescriptor yX2_noteWord.desc).map (fun d => d.parameters.length) = some 1 := ⟨rfl, by decide +kernel⟩
theorem dv_yX2_wordAt_1 : yX2_wordAt.cls = RX2 ∧ yX2_wordAt.cls ≠ "java/lang/invoke/MethodHandle" ∧ yX2_wordAt.cls ≠ "java/lang/invoke/VarHandle" ∧ (parseMethodDescriptor yX2_wordAt.desc).map (fun d => d.parameters.length) = some 1 := ⟨rfl, by decide +kernel⟩
theorem dv_yX3_byteAt_1 : yX3_byteAt.cls = RX3 ∧ yX3_byteAt.cls ≠ "java/lang/invoke/MethodHandle" ∧ yX3_byteAt.cls ≠ "java/lang/invoke/VarHandle" ∧ (parseMethodDescriptor yX3_byteAt.desc).map (fun d => d.parameters.length) = some 1 := ⟨rfl, by decide +kernel⟩
theorem dv_yX3_endNode_2 : yX3_endNode.cls = RX3 ∧ yX3_endNode.cls ≠ "java/lang/invoke/MethodHandle" ∧ yX3_endNode.cls ≠ "java/lang/invoke/VarHandle" ∧ (parseMethodDescriptor yX3_endNode.desc).map (fun d => d.parameters.length) = some 2 := ⟨rfl, by decide +kernel⟩
theorem dv_yX3_exchanged_1 : yX3_exchanged.cls = RX3 ∧ yX3_exchanged.cls ≠ "java/lang/invoke/MethodHandle" ∧ yX3_exchanged.cls ≠ "java/lang/invoke/VarHandle" ∧ (parseMethodDescriptor yX3_exchanged.desc).map (fun d => d.parameters.length) = some 1 := ⟨rfl, by decide +kernel⟩
theorem dv_yX3_faulty_1 : yX3_faulty.cls = RX3 ∧ yX3_faulty.cls ≠ "java/lang/invoke/MethodHandle" ∧ yX3_faulty.cls ≠ "java/lang/invoke/VarHandle" ∧ (parseMethodDescriptor yX3_faulty.desc).map (fun d => d.parameters.length) = some 1 := ⟨rfl, by decide +kernel⟩
theorem ds_yX3_isDigit_1 : yX3_isDigit.cls ≠ "java/lang/invoke/MethodHandle" ∧ yX3_isDigit.cls ≠ "java/lang/invoke/VarHandle" ∧ (parseMethodDescriptor yX3_isDigit.desc).map (fun d => d.parameters.length) = some 1 := by decide +kernel
theorem ds_yX3_isLetter_1 : yX3_isLetter.cls ≠ "java/lang/invoke/MethodHandle" ∧ yX3_isLetter.cls ≠ "java/lang/invoke/VarHandle" ∧ (parseMethodDescriptor yX3_isLetter.desc).map (fun d => d.parameters.length) = some 1 := by decide +kernel
theorem dv_yX3_isLineKey_0 : yX3_isLineKey.cls = RX3 ∧ yX3_isLineKey.cls ≠ "java/lang/invoke/MethodHandle" ∧ yX3_isLineKey.cls ≠ "java/lang/invoke/VarHandle" ∧ (parseMethodDescriptor yX3_isLineKey.desc).map (fun d => d.parameters.length) = some 0 := ⟨rfl, by decide +kernel⟩
theorem dv_yX3_isNewName_0 : yX3_isNewName.cls = RX3 ∧ yX3_isNewName.cls ≠ "java/lang/invoke/MethodHandle" ∧ yX3_isNewName.cls ≠ "java/lang/invoke/VarHandle" ∧ (parseMethodDescriptor yX3_isNewName.desc).map (fun d => d.parameters.length) = some 0 := ⟨rfl, by decide +kernel⟩
theorem dv_yX3_isToldName_0 : yX3_isToldName.cls = RX3 ∧ yX3_isToldName.cls ≠ "java/lang/invoke/MethodHandle" ∧ yX3_isToldName.cls ≠ "java/lang/invoke/VarHandle" ∧ (parseMethodDescriptor yX3_isToldName.desc).map (fun d => d.parameters.length) = some 0 := ⟨rfl, by decide +kernel⟩
theorem dv_yX3_isWholeWithin_2 : yX3_isWholeWithin.cls = RX3 ∧ yX3_isWholeWithin.cls ≠ "java/lang/invoke/MethodHandle" ∧ yX3_isWholeWithin.cls ≠ "java/lang/invoke/VarHandle" ∧ (parseMethodDescriptor yX3_isWholeWithin.desc).map (fun d => d.parameters.length) = some 2 := ⟨rfl, by decide +kernel⟩
theorem dv_yX3_nextToken_0 : yX3_nextToken.cls = RX3 ∧ yX3_nextToken.cls ≠ "java/lang/invoke/MethodHandle" ∧ yX3_nextToken.cls ≠ "java/lang/invoke/VarHandle" ∧ (parseMethodDescriptor yX3_nextToken.desc).map (fun d => d.parameters.length) = some 0 := ⟨rfl, by decide +kernel⟩
theorem dv_yX3_putBytes_1 : yX3_putBytes.cls = RX3 ∧ yX3_putBytes.cls ≠ "java/lang/invoke/MethodHandle" ∧ yX3_putBytes.cls ≠ "java/lang/invoke/VarHandle" ∧ (parseMethodDescriptor yX3_putBytes.desc).map (fun d => d.parameters.length) = some 1 := ⟨rfl, by decide +kernel⟩
theorem dv_yX3_readCourt_0 : yX3_readCourt.cls = RX3 ∧ yX3_readCourt.cls ≠ "java/lang/invoke/MethodHandle" ∧ yX3_readCourt.cls ≠ "java/lang/invoke/VarHandle" ∧ (parseMethodDescriptor yX3_readCourt.desc).map (fun d => d.parameters.length) = some 0 := ⟨rfl, by decide +kernel⟩
theorem dv_yX3_readEnd_0 : yX3_readEnd.cls = RX3 ∧ yX3_readEnd.cls ≠ "java/lang/invoke/MethodHandle" ∧ yX3_readEnd.cls ≠ "java/lang/invoke/VarHandle" ∧ (parseMethodDescriptor yX3_readEnd.desc).map (fun d => d.parameters.length) = some 0 := ⟨rfl, by decide +kernel⟩
theorem dv_yX3_readLine_0 : yX3_readLine.cls = RX3 ∧ yX3_readLine.cls ≠ "java/lang/invoke/MethodHandle" ∧ yX3_readLine.cls ≠ "java/lang/invoke/VarHandle" ∧ (parseMethodDescriptor yX3_readLine.desc).map (fun d => d.parameters.length) = some 0 := ⟨rfl, by decide +kernel⟩
theorem dv_yX3_readPart_1 : yX3_readPart.cls = RX3 ∧ yX3_readPart.cls ≠ "java/lang/invoke/MethodHandle" ∧ yX3_readPart.cls ≠ "java/lang/invoke/VarHandle" ∧ (parseMethodDescriptor yX3_readPart.desc).map (fun d => d.parameters.length) = some 1 := ⟨rfl, by decide +kernel⟩
theorem dv_yX3_readRuler_1 : yX3_readRuler.cls = RX3 ∧ yX3_readRuler.cls ≠ "java/lang/invoke/MethodHandle" ∧ yX3_readRuler.cls ≠ "java/lang/invoke/VarHandle" ∧ (parseMethodDescriptor yX3_readRuler.desc).map (fun d => d.parameters.length) = some 1 := ⟨rfl, by decide +kernel⟩
theorem dv_yX3_readSaid_0 : yX3_readSaid.cls = RX3 ∧ yX3_readSaid.cls ≠ "java/lang/invoke/MethodHandle" ∧ yX3_readSaid.cls ≠ "java/lang/invoke/VarHandle" ∧ (parseMethodDescriptor yX3_readSaid.desc).map (fun d => d.parameters.length) = some 0 := ⟨rfl, by decide +kernel⟩
theorem dv_yX3_readThrone_0 : yX3_readThrone.cls = RX3 ∧ yX3_readThrone.cls ≠ "java/lang/invoke/MethodHandle" ∧ yX3_readThrone.cls ≠ "java/lang/invoke/VarHandle" ∧ (parseMethodDescriptor yX3_readThrone.desc).map (fun d => d.parameters.length) = some 0 := ⟨rfl, by decide +kernel⟩
theorem dv_yX3_readUnsure_0 : yX3_readUnsure.cls = RX3 ∧ yX3_readUnsure.cls ≠ "java/lang/invoke/MethodHandle" ∧ yX3_readUnsure.cls ≠ "java/lang/invoke/VarHandle" ∧ (parseMethodDescriptor yX3_readUnsure.desc).map (fun d => d.parameters.length) = some 0 := ⟨rfl, by decide +kernel⟩
theorem dv_yX3_readWord_0 : yX3_readWord.cls = RX3 ∧ yX3_readWord.cls ≠ "java/lang/invoke/MethodHandle" ∧ yX3_readWord.cls ≠ "java/lang/invoke/VarHandle" ∧ (parseMethodDescriptor yX3_readWord.desc).map (fun d => d.parameters.length) = some 0 := ⟨rfl, by decide +kernel⟩
theorem dv_yX3_reads_1 : yX3_reads.cls = RX3 ∧ yX3_reads.cls ≠ "java/lang/invoke/MethodHandle" ∧ yX3_reads.cls ≠ "java/lang/invoke/VarHandle" ∧ (parseMethodDescriptor yX3_reads.desc).map (fun d => d.parameters.length) = some 1 := ⟨rfl, by decide +kernel⟩
theorem dv_yX3_takeDigits_0 : yX3_takeDigits.cls = RX3 ∧ yX3_takeDigits.cls ≠ "java/lang/invoke/MethodHandle" ∧ yX3_takeDigits.cls ≠ "java/lang/invoke/VarHandle" ∧ (parseMethodDescriptor yX3_takeDigits.desc).map (fun d => d.parameters.length) = some 0 := ⟨rfl, by decide +kernel⟩
theorem dv_yX3_takeLetters_0 : yX3_takeLetters.cls = RX3 ∧ yX3_takeLetters.cls ≠ "java/lang/invoke/MethodHandle" ∧ yX3_takeLetters.cls ≠ "java/lang/invoke/VarHandle" ∧ (parseMethodDescriptor yX3_takeLetters.desc).map (fun d => d.parameters.length) = some 0 := ⟨rfl, by decide +kernel⟩
theorem dv_yX3_toldNode_0 : yX3_toldNode.cls = RX3 ∧ yX3_toldNode.cls ≠ "java/lang/invoke/MethodHandle" ∧ yX3_toldNode.cls ≠ "java/lang/invoke/VarHandle" ∧ (parseMethodDescriptor yX3_toldNode.desc).map (fun d => d.parameters.length) = some 0 := ⟨rfl, by decide +kernel⟩
theorem ds_yX3_withLetter_2 : yX3_withLetter.cls ≠ "java/lang/invoke/MethodHandle" ∧ yX3_withLetter.cls ≠ "java/lang/invoke/VarHandle" ∧ (parseMethodDescriptor yX3_withLetter.desc).map (fun d => d.parameters.length) = some 2 := by decide +kernel
theorem dv_yX4_joined_2 : yX4_joined.cls = RX4 ∧ yX4_joined.cls ≠ "java/lang/invoke/MethodHandle" ∧ yX4_joined.cls ≠ "java/lang/invoke/VarHandle" ∧ (parseMethodDescriptor yX4_joined.desc).map (fun d => d.parameters.length) = some 2 := ⟨rfl, by decide +kernel⟩
theorem dv_yX4_throneBySet_4 : yX4_throneBySet.cls = RX4 ∧ yX4_throneBySet.cls ≠ "java/lang/invoke/MethodHandle" ∧ yX4_throneBySet.cls ≠ "java/lang/invoke/VarHandle" ∧ (parseMethodDescriptor yX4_throneBySet.desc).map (fun d => d.parameters.length) = some 4 := ⟨rfl, by decide +kernel⟩
theorem dv_yX4_throneByUnsure_3 : yX4_throneByUnsure.cls = RX4 ∧ yX4_throneByUnsure.cls ≠ "java/lang/invoke/MethodHandle" ∧ yX4_throneByUnsure.cls ≠ "java/lang/invoke/VarHandle" ∧ (parseMethodDescriptor yX4_throneByUnsure.desc).map (fun d => d.parameters.length) = some 3 := ⟨rfl, by decide +kernel⟩
theorem dv_yX4_throneByWord_4 : yX4_throneByWord.cls = RX4 ∧ yX4_throneByWord.cls ≠ "java/lang/invoke/MethodHandle" ∧ yX4_throneByWord.cls ≠ "java/lang/invoke/VarHandle" ∧ (parseMethodDescriptor yX4_throneByWord.desc).map (fun d => d.parameters.length) = some 4 := ⟨rfl, by decide +kernel⟩
theorem dv_yX4_throneValue_1 : yX4_throneValue.cls = RX4 ∧ yX4_throneValue.cls ≠ "java/lang/invoke/MethodHandle" ∧ yX4_throneValue.cls ≠ "java/lang/invoke/VarHandle" ∧ (parseMethodDescriptor yX4_throneValue.desc).map (fun d => d.parameters.length) = some 1 := ⟨rfl, by decide +kernel⟩
theorem dv_yX4_waysDown_1 : yX4_waysDown.cls = RX4 ∧ yX4_waysDown.cls ≠ "java/lang/invoke/MethodHandle" ∧ yX4_waysDown.cls ≠ "java/lang/invoke/VarHandle" ∧ (parseMethodDescriptor yX4_waysDown.desc).map (fun d => d.parameters.length) = some 1 := ⟨rfl, by decide +kernel⟩
theorem dv_yX4_weighAll_2 : yX4_weighAll.cls = RX4 ∧ yX4_weighAll.cls ≠ "java/lang/invoke/MethodHandle" ∧ yX4_weighAll.cls ≠ "java/lang/invoke/VarHandle" ∧ (parseMethodDescriptor yX4_weighAll.desc).map (fun d => d.parameters.length) = some 2 := ⟨rfl, by decide +kernel⟩
theorem dv_yX4_weighNextNight_1 : yX4_weighNextNight.cls = RX4 ∧ yX4_weighNextNight.cls ≠ "java/lang/invoke/MethodHandle" ∧ yX4_weighNextNight.cls ≠ "java/lang/invoke/VarHandle" ∧ (parseMethodDescriptor yX4_weighNextNight.desc).map (fun d => d.parameters.length) = some 1 := ⟨rfl, by decide +kernel⟩
theorem dv_yX4_weighNightNone_2 : yX4_weighNightNone.cls = RX4 ∧ yX4_weighNightNone.cls ≠ "java/lang/invoke/MethodHandle" ∧ yX4_weighNightNone.cls ≠ "java/lang/invoke/VarHandle" ∧ (parseMethodDescriptor yX4_weighNightNone.desc).map (fun d => d.parameters.length) = some 2 := ⟨rfl, by decide +kernel⟩
theorem dv_yX5_bringFirst_2 : yX5_bringFirst.cls = RX5 ∧ yX5_bringFirst.cls ≠ "java/lang/invoke/MethodHandle" ∧ yX5_bringFirst.cls ≠ "java/lang/invoke/VarHandle" ∧ (parseMethodDescriptor yX5_bringFirst.desc).map (fun d => d.parameters.length) = some 2 := ⟨rfl, by decide +kernel⟩
theorem dv_yX5_copyFrom_1 : yX5_copyFrom.cls = RX5 ∧ yX5_copyFrom.cls ≠ "java/lang/invoke/MethodHandle" ∧ yX5_copyFrom.cls ≠ "java/lang/invoke/VarHandle" ∧ (parseMethodDescriptor yX5_copyFrom.desc).map (fun d => d.parameters.length) = some 1 := ⟨rfl, by decide +kernel⟩
theorem dv_yX5_partAt_3 : yX5_partAt.cls = RX5 ∧ yX5_partAt.cls ≠ "java/lang/invoke/MethodHandle" ∧ yX5_partAt.cls ≠ "java/lang/invoke/VarHandle" ∧ (parseMethodDescriptor yX5_partAt.desc).map (fun d => d.parameters.length) = some 3 := ⟨rfl, by decide +kernel⟩
theorem dv_yX5_putInOrder_3 : yX5_putInOrder.cls = RX5 ∧ yX5_putInOrder.cls ≠ "java/lang/invoke/MethodHandle" ∧ yX5_putInOrder.cls ≠ "java/lang/invoke/VarHandle" ∧ (parseMethodDescriptor yX5_putInOrder.desc).map (fun d => d.parameters.length) = some 3 := ⟨rfl, by decide +kernel⟩
theorem dv_yX5_sendBack_2 : yX5_sendBack.cls = RX5 ∧ yX5_sendBack.cls ≠ "java/lang/invoke/MethodHandle" ∧ yX5_sendBack.cls ≠ "java/lang/invoke/VarHandle" ∧ (parseMethodDescriptor yX5_sendBack.desc).map (fun d => d.parameters.length) = some 2 := ⟨rfl, by decide +kernel⟩
theorem dv_yX5_standAsTold_1 : yX5_standAsTold.cls = RX5 ∧ yX5_standAsTold.cls ≠ "java/lang/invoke/MethodHandle" ∧ yX5_standAsTold.cls ≠ "java/lang/invoke/VarHandle" ∧ (parseMethodDescriptor yX5_standAsTold.desc).map (fun d => d.parameters.length) = some 1 := ⟨rfl, by decide +kernel⟩
theorem dv_yX5_turnRound_4 : yX5_turnRound.cls = RX5 ∧ yX5_turnRound.cls ≠ "java/lang/invoke/MethodHandle" ∧ yX5_turnRound.cls ≠ "java/lang/invoke/VarHandle" ∧ (parseMethodDescriptor yX5_turnRound.desc).map (fun d => d.parameters.length) = some 4 := ⟨rfl, by decide +kernel⟩
theorem dv_yX5_weightAt_3 : yX5_weightAt.cls = RX5 ∧ yX5_weightAt.cls ≠ "java/lang/invoke/MethodHandle" ∧ yX5_weightAt.cls ≠ "java/lang/invoke/VarHandle" ∧ (parseMethodDescriptor yX5_weightAt.desc).map (fun d => d.parameters.length) = some 3 := ⟨rfl, by decide +kernel⟩
theorem dv_yX6_bestPart_1 : yX6_bestPart.cls = RX6 ∧ yX6_bestPart.cls ≠ "java/lang/invoke/MethodHandle" ∧ yX6_bestPart.cls ≠ "java/lang/invoke/VarHandle" ∧ (parseMethodDescriptor yX6_bestPart.desc).map (fun d => d.parameters.length) = some 1 := ⟨rfl, by decide +kernel⟩
theorem dv_yX6_breathsInOrder_2 : yX6_breathsInOrder.cls = RX6 ∧ yX6_breathsInOrder.cls ≠ "java/lang/invoke/MethodHandle" ∧ yX6_breathsInOrder.cls ≠ "java/lang/invoke/VarHandle" ∧ (parseMethodDescriptor yX6_breathsInOrder.desc).map (fun d => d.parameters.length) = some 2 := ⟨rfl, by decide +kernel⟩
theorem dv_yX6_breathsWithFirst_2 : yX6_breathsWithFirst.cls = RX6 ∧ yX6_breathsWithFirst.cls ≠ "java/lang/invoke/MethodHandle" ∧ yX6_breathsWithFirst.cls ≠ "java/lang/invoke/VarHandle" ∧ (parseMethodDescriptor yX6_breathsWithFirst.desc).map (fun d => d.parameters.length) = some 2 := ⟨rfl, by decide +kernel⟩
theorem dv_yX6_drawOrders_1 : yX6_drawOrders.cls = RX6 ∧ yX6_drawOrders.cls ≠ "java/lang/invoke/MethodHandle" ∧ yX6_drawOrders.cls ≠ "java/lang/invoke/VarHandle" ∧ (parseMethodDescriptor yX6_drawOrders.desc).map (fun d => d.parameters.length) = some 1 := ⟨rfl, by decide +kernel⟩
theorem dv_yX6_fewestWords_2 : yX6_fewestWords.cls = RX6 ∧ yX6_fewestWords.cls ≠ "java/lang/invoke/MethodHandle" ∧ yX6_fewestWords.cls ≠ "java/lang/invoke/VarHandle" ∧ (parseMethodDescriptor yX6_fewestWords.desc).map (fun d => d.parameters.length) = some 2 := ⟨rfl, by decide +kernel⟩
theorem dv_yX6_fittingSets_0 : yX6_fittingSets.cls = RX6 ∧ yX6_fittingSets.cls ≠ "java/lang/invoke/MethodHandle" ∧ yX6_fittingSets.cls ≠ "java/lang/invoke/VarHandle" ∧ (parseMethodDescriptor yX6_fittingSets.desc).map (fun d => d.parameters.length) = some 0 := ⟨rfl, by decide +kernel⟩
theorem ds_yX6_greatestCommon_2 : yX6_greatestCommon.cls ≠ "java/lang/invoke/MethodHandle" ∧ yX6_greatestCommon.cls ≠ "java/lang/invoke/VarHandle" ∧ (parseMethodDescriptor yX6_greatestCommon.desc).map (fun d => d.parameters.length) = some 2 := by decide +kernel
theorem ds_yX6_inLowestTerms_3 : yX6_inLowestTerms.cls ≠ "java/lang/invoke/MethodHandle" ∧ yX6_inLowestTerms.cls ≠ "java/lang/invoke/VarHandle" ∧ (parseMethodDescriptor yX6_inLowestTerms.desc).map (fun d => d.parameters.length) = some 3 := by decide +kernel
theorem ds_yX6_isRest_3 : yX6_isRest.cls ≠ "java/lang/invoke/MethodHandle" ∧ yX6_isRest.cls ≠ "java/lang/invoke/VarHandle" ∧ (parseMethodDescriptor yX6_isRest.desc).map (fun d => d.parameters.length) = some 3 := by decide +kernel
theorem dv_yX6_lacksBounds_2 : yX6_lacksBounds.cls = RX6 ∧ yX6_lacksBounds.cls ≠ "java/lang/invoke/MethodHandle" ∧ yX6_lacksBounds.cls ≠ "java/lang/invoke/VarHandle" ∧ (parseMethodDescriptor yX6_lacksBounds.desc).map (fun d => d.parameters.length) = some 2 := ⟨rfl, by decide +kernel⟩
theorem dv_yX6_lacksCourt_0 : yX6_lacksCourt.cls = RX6 ∧ yX6_lacksCourt.cls ≠ "java/lang/invoke/MethodHandle" ∧ yX6_lacksCourt.cls ≠ "java/lang/invoke/VarHandle" ∧ (parseMethodDescriptor yX6_lacksCourt.desc).map (fun d => d.parameters.length) = some 0 := ⟨rfl, by decide +kernel⟩
theorem dv_yX6_lacksDraws_2 : yX6_lacksDraws.cls = RX6 ∧ yX6_lacksDraws.cls ≠ "java/lang/invoke/MethodHandle" ∧ yX6_lacksDraws.cls ≠ "java/lang/invoke/VarHandle" ∧ (parseMethodDescriptor yX6_lacksDraws.desc).map (fun d => d.parameters.length) = some 2 := ⟨rfl, by decide +kernel⟩
theorem dv_yX6_lacksNode_1 : yX6_lacksNode.cls = RX6 ∧ yX6_lacksNode.cls ≠ "java/lang/invoke/MethodHandle" ∧ yX6_lacksNode.cls ≠ "java/lang/invoke/VarHandle" ∧ (parseMethodDescriptor yX6_lacksNode.desc).map (fun d => d.parameters.length) = some 1 := ⟨rfl, by decide +kernel⟩
theorem dv_yX6_lacksNumber_3 : yX6_lacksNumber.cls = RX6 ∧ yX6_lacksNumber.cls ≠ "java/lang/invoke/MethodHandle" ∧ yX6_lacksNumber.cls ≠ "java/lang/invoke/VarHandle" ∧ (parseMethodDescriptor yX6_lacksNumber.desc).map (fun d => d.parameters.length) = some 3 := ⟨rfl, by decide +kernel⟩
theorem dv_yX6_lacksPart_2 : yX6_lacksPart.cls = RX6 ∧ yX6_lacksPart.cls ≠ "java/lang/invoke/MethodHandle" ∧ yX6_lacksPart.cls ≠ "java/lang/invoke/VarHandle" ∧ (parseMethodDescriptor yX6_lacksPart.desc).map (fun d => d.parameters.length) = some 2 := ⟨rfl, by decide +kernel⟩
theorem dv_yX6_lacksWord_1 : yX6_lacksWord.cls = RX6 ∧ yX6_lacksWord.cls ≠ "java/lang/invoke/MethodHandle" ∧ yX6_lacksWord.cls ≠ "java/lang/invoke/VarHandle" ∧ (parseMethodDescriptor yX6_lacksWord.desc).map (fun d => d.parameters.length) = some 1 := ⟨rfl, by decide +kernel⟩
theorem dv_yX6_leastTurn_1 : yX6_leastTurn.cls = RX6 ∧ yX6_leastTurn.cls ≠ "java/lang/invoke/MethodHandle" ∧ yX6_leastTurn.cls ≠ "java/lang/invoke/VarHandle" ∧ (parseMethodDescriptor yX6_leastTurn.desc).map (fun d => d.parameters.length) = some 1 := ⟨rfl, by decide +kernel⟩
theorem dv_yX6_leastTurnTowards_4 : yX6_leastTurnTowards.cls = RX6 ∧ yX6_leastTurnTowards.cls ≠ "java/lang/invoke/MethodHandle" ∧ yX6_leastTurnTowards.cls ≠ "java/lang/invoke/VarHandle" ∧ (parseMethodDescriptor yX6_leastTurnTowards.desc).map (fun d => d.parameters.length) = some 4 := ⟨rfl, by decide +kernel⟩
theorem dv_yX6_leftAtMost_2 : yX6_leftAtMost.cls = RX6 ∧ yX6_leftAtMost.cls ≠ "java/lang/invoke/MethodHandle" ∧ yX6_leftAtMost.cls ≠ "java/lang/invoke/VarHandle" ∧ (parseMethodDescriptor yX6_leftAtMost.desc).map (fun d => d.parameters.length) = some 2 := ⟨rfl, by decide +kernel⟩
theorem dv_yX6_lineLength_0 : yX6_lineLength.cls = RX6 ∧ yX6_lineLength.cls ≠ "java/lang/invoke/MethodHandle" ∧ yX6_lineLength.cls ≠ "java/lang/invoke/VarHandle" ∧ (parseMethodDescriptor yX6_lineLength.desc).map (fun d => d.parameters.length) = some 0 := ⟨rfl, by decide +kernel⟩
theorem dv_yX6_ordersOf_1 : yX6_ordersOf.cls = RX6 ∧ yX6_ordersOf.cls ≠ "java/lang/invoke/MethodHandle" ∧ yX6_ordersOf.cls ≠ "java/lang/invoke/VarHandle" ∧ (parseMethodDescriptor yX6_ordersOf.desc).map (fun d => d.parameters.length) = some 1 := ⟨rfl, by decide +kernel⟩
theorem dv_yX6_placeOfFirst_1 : yX6_placeOfFirst.cls = RX6 ∧ yX6_placeOfFirst.cls ≠ "java/lang/invoke/MethodHandle" ∧ yX6_placeOfFirst.cls ≠ "java/lang/invoke/VarHandle" ∧ (parseMethodDescriptor yX6_placeOfFirst.desc).map (fun d => d.parameters.length) = some 1 := ⟨rfl, by decide +kernel⟩
theorem dv_yX6_refuse_1 : yX6_refuse.cls = RX6 ∧ yX6_refuse.cls ≠ "java/lang/invoke/MethodHandle" ∧ yX6_refuse.cls ≠ "java/lang/invoke/VarHandle" ∧ (parseMethodDescriptor yX6_refuse.desc).map (fun d => d.parameters.length) = some 1 := ⟨rfl, by decide +kernel⟩
theorem ds_yX6_shareOf_3 : yX6_shareOf.cls ≠ "java/lang/invoke/MethodHandle" ∧ yX6_shareOf.cls ≠ "java/lang/invoke/VarHandle" ∧ (parseMethodDescriptor yX6_shareOf.desc).map (fun d => d.parameters.length) = some 3 := by decide +kernel
theorem dv_yX6_shows_3 : yX6_shows.cls = RX6 ∧ yX6_shows.cls ≠ "java/lang/invoke/MethodHandle" ∧ yX6_shows.cls ≠ "java/lang/invoke/VarHandle" ∧ (parseMethodDescriptor yX6_shows.desc).map (fun d => d.parameters.length) = some 3 := ⟨rfl, by decide +kernel⟩
theorem dv_yX6_unsureToAsk_1 : yX6_unsureToAsk.cls = RX6 ∧ yX6_unsureToAsk.cls ≠ "java/lang/invoke/MethodHandle" ∧ yX6_unsureToAsk.cls ≠ "java/lang/invoke/VarHandle" ∧ (parseMethodDescriptor yX6_unsureToAsk.desc).map (fun d => d.parameters.length) = some 1 := ⟨rfl, by decide +kernel⟩
theorem ds_yX6_wholeOf_2 : yX6_wholeOf.cls ≠ "java/lang/invoke/MethodHandle" ∧ yX6_wholeOf.cls ≠ "java/lang/invoke/VarHandle" ∧ (parseMethodDescriptor yX6_wholeOf.desc).map (fun d => d.parameters.length) = some 2 := by decide +kernel
theorem dv_yX7_after_3 : yX7_after.cls = RX7 ∧ yX7_after.cls ≠ "java/lang/invoke/MethodHandle" ∧ yX7_after.cls ≠ "java/lang/invoke/VarHandle" ∧ (parseMethodDescriptor yX7_after.desc).map (fun d => d.parameters.length) = some 3 := ⟨rfl, by decide +kernel⟩
theorem dv_yX7_askFor_1 : yX7_askFor.cls = RX7 ∧ yX7_askFor.cls ≠ "java/lang/invoke/MethodHandle" ∧ yX7_askFor.cls ≠ "java/lang/invoke/VarHandle" ∧ (parseMethodDescriptor yX7_askFor.desc).map (fun d => d.parameters.length) = some 1 := ⟨rfl, by decide +kernel⟩
theorem dv_yX7_askedFirst_0 : yX7_askedFirst.cls = RX7 ∧ yX7_askedFirst.cls ≠ "java/lang/invoke/MethodHandle" ∧ yX7_askedFirst.cls ≠ "java/lang/invoke/VarHandle" ∧ (parseMethodDescriptor yX7_askedFirst.desc).map (fun d => d.parameters.length) = some 0 := ⟨rfl, by decide +kernel⟩
theorem dv_yX7_begins_2 : yX7_begins.cls = RX7 ∧ yX7_begins.cls ≠ "java/lang/invoke/MethodHandle" ∧ yX7_begins.cls ≠ "java/lang/invoke/VarHandle" ∧ (parseMethodDescriptor yX7_begins.desc).map (fun d => d.parameters.length) = some 2 := ⟨rfl, by decide +kernel⟩
theorem dv_yX7_bestOf_1 : yX7_bestOf.cls = RX7 ∧ yX7_bestOf.cls ≠ "java/lang/invoke/MethodHandle" ∧ yX7_bestOf.cls ≠ "java/lang/invoke/VarHandle" ∧ (parseMethodDescriptor yX7_bestOf.desc).map (fun d => d.parameters.length) = some 1 := ⟨rfl, by decide +kernel⟩
theorem dv_yX7_boundWhy_2 : yX7_boundWhy.cls = RX7 ∧ yX7_boundWhy.cls ≠ "java/lang/invoke/MethodHandle" ∧ yX7_boundWhy.cls ≠ "java/lang/invoke/VarHandle" ∧ (parseMethodDescriptor yX7_boundWhy.desc).map (fun d => d.parameters.length) = some 2 := ⟨rfl, by decide +kernel⟩
theorem dv_yX7_breathsBy_1 : yX7_breathsBy.cls = RX7 ∧ yX7_breathsBy.cls ≠ "java/lang/invoke/MethodHandle" ∧ yX7_breathsBy.cls ≠ "java/lang/invoke/VarHandle" ∧ (parseMethodDescriptor yX7_breathsBy.desc).map (fun d => d.parameters.length) = some 1 := ⟨rfl, by decide +kernel⟩
theorem ds_yX7_copy_5 : yX7_copy.cls ≠ "java/lang/invoke/MethodHandle" ∧ yX7_copy.cls ≠ "java/lang/invoke/VarHandle" ∧ (parseMethodDescriptor yX7_copy.desc).map (fun d => d.parameters.length) = some 5 := by decide +kernel
theorem dv_yX7_courtLine_0 : yX7_courtLine.cls = RX7 ∧ yX7_courtLine.cls ≠ "java/lang/invoke/MethodHandle" ∧ yX7_courtLine.cls ≠ "java/lang/invoke/VarHandle" ∧ (parseMethodDescriptor yX7_courtLine.desc).map (fun d => d.parameters.length) = some 0 := ⟨rfl, by decide +kernel⟩
theorem dv_yX7_cutFrom_4 : yX7_cutFrom.cls = RX7 ∧ yX7_cutFrom.cls ≠ "java/lang/invoke/MethodHandle" ∧ yX7_cutFrom.cls ≠ "java/lang/invoke/VarHandle" ∧ (parseMethodDescriptor yX7_cutFrom.desc).map (fun d => d.parameters.length) = some 4 := ⟨rfl, by decide +kernel⟩
theorem dv_yX7_doesFit_1 : yX7_doesFit.cls = RX7 ∧ yX7_doesFit.cls ≠ "java/lang/invoke/MethodHandle" ∧ yX7_doesFit.cls ≠ "java/lang/invoke/VarHandle" ∧ (parseMethodDescriptor yX7_doesFit.desc).map (fun d => d.parameters.length) = some 1 := ⟨rfl, by decide +kernel⟩
theorem dv_yX7_doesProve_3 : yX7_doesProve.cls = RX7 ∧ yX7_doesProve.cls ≠ "java/lang/invoke/MethodHandle" ∧ yX7_doesProve.cls ≠ "java/lang/invoke/VarHandle" ∧ (parseMethodDescriptor yX7_doesProve.desc).map (fun d => d.parameters.length) = some 3 := ⟨rfl, by decide +kernel⟩
theorem dv_yX7_downOf_1 : yX7_downOf.cls = RX7 ∧ yX7_downOf.cls ≠ "java/lang/invoke/MethodHandle" ∧ yX7_downOf.cls ≠ "java/lang/invoke/VarHandle" ∧ (parseMethodDescriptor yX7_downOf.desc).map (fun d => d.parameters.length) = some 1 := ⟨rfl, by decide +kernel⟩
theorem dv_yX7_drawOrders_2 : yX7_drawOrders.cls = RX7 ∧ yX7_drawOrders.cls ≠ "java/lang/invoke/MethodHandle" ∧ yX7_drawOrders.cls ≠ "java/lang/invoke/VarHandle" ∧ (parseMethodDescriptor yX7_drawOrders.desc).map (fun d => d.parameters.length) = some 2 := ⟨rfl, by decide +kernel⟩
theorem dv_yX7_fewestFor_2 : yX7_fewestFor.cls = RX7 ∧ yX7_fewestFor.cls ≠ "java/lang/invoke/MethodHandle" ∧ yX7_fewestFor.cls ≠ "java/lang/invoke/VarHandle" ∧ (parseMethodDescriptor yX7_fewestFor.desc).map (fun d => d.parameters.length) = some 2 := ⟨rfl, by decide +kernel⟩
theorem dv_yX7_find_0 : yX7_find.cls = RX7 ∧ yX7_find.cls ≠ "java/lang/invoke/MethodHandle" ∧ yX7_find.cls ≠ "java/lang/invoke/VarHandle" ∧ (parseMethodDescriptor yX7_find.desc).map (fun d => d.parameters.length) = some 0 := ⟨rfl, by decide +kernel⟩
theorem dv_yX7_firstOf_1 : yX7_firstOf.cls = RX7 ∧ yX7_firstOf.cls ≠ "java/lang/invoke/MethodHandle" ∧ yX7_firstOf.cls ≠ "java/lang/invoke/VarHandle" ∧ (parseMethodDescriptor yX7_firstOf.desc).map (fun d => d.parameters.length) = some 1 := ⟨rfl, by decide +kernel⟩
theorem dv_yX7_frontOf_3 : yX7_frontOf.cls = RX7 ∧ yX7_frontOf.cls ≠ "java/lang/invoke/MethodHandle" ∧ yX7_frontOf.cls ≠ "java/lang/invoke/VarHandle" ∧ (parseMethodDescriptor yX7_frontOf.desc).map (fun d => d.parameters.length) = some 3 := ⟨rfl, by decide +kernel⟩
theorem dv_yX7_good_0 : yX7_good.cls = RX7 ∧ yX7_good.cls ≠ "java/lang/invoke/MethodHandle" ∧ yX7_good.cls ≠ "java/lang/invoke/VarHandle" ∧ (parseMethodDescriptor yX7_good.desc).map (fun d => d.parameters.length) = some 0 := ⟨rfl, by decide +kernel⟩
theorem dv_yX7_halve_0 : yX7_halve.cls = RX7 ∧ yX7_halve.cls ≠ "java/lang/invoke/MethodHandle" ∧ yX7_halve.cls ≠ "java/lang/invoke/VarHandle" ∧ (parseMethodDescriptor yX7_halve.desc).map (fun d => d.parameters.length) = some 0 := ⟨rfl, by decide +kernel⟩
theorem ds_yX7_hasBit_2 : yX7_hasBit.cls ≠ "java/lang/invoke/MethodHandle" ∧ yX7_hasBit.cls ≠ "java/lang/invoke/VarHandle" ∧ (parseMethodDescriptor yX7_hasBit.desc).map (fun d => d.parameters.length) = some 2 := by decide +kernel
theorem dv_yX7_hear_4 : yX7_hear.cls = RX7 ∧ yX7_hear.cls ≠ "java/lang/invoke/MethodHandle" ∧ yX7_hear.cls ≠ "java/lang/invoke/VarHandle" ∧ (parseMethodDescriptor yX7_hear.desc).map (fun d => d.parameters.length) = some 4 := ⟨rfl, by decide +kernel⟩
theorem dv_yX7_hearBy_3 : yX7_hearBy.cls = RX7 ∧ yX7_hearBy.cls ≠ "java/lang/invoke/MethodHandle" ∧ yX7_hearBy.cls ≠ "java/lang/invoke/VarHandle" ∧ (parseMethodDescriptor yX7_hearBy.desc).map (fun d => d.parameters.length) = some 3 := ⟨rfl, by decide +kernel⟩
theorem dv_yX7_heardSet_0 : yX7_heardSet.cls = RX7 ∧ yX7_heardSet.cls ≠ "java/lang/invoke/MethodHandle" ∧ yX7_heardSet.cls ≠ "java/lang/invoke/VarHandle" ∧ (parseMethodDescriptor yX7_heardSet.desc).map (fun d => d.parameters.length) = some 0 := ⟨rfl, by decide +kernel⟩
theorem ds_yX7_in_3 : yX7_in.cls ≠ "java/lang/invoke/MethodHandle" ∧ yX7_in.cls ≠ "java/lang/invoke/VarHandle" ∧ (parseMethodDescriptor yX7_in.desc).map (fun d => d.parameters.length) = some 3 := by decide +kernel
theorem dv_yX7_innerLine_1 : yX7_innerLine.cls = RX7 ∧ yX7_innerLine.cls ≠ "java/lang/invoke/MethodHandle" ∧ yX7_innerLine.cls ≠ "java/lang/invoke/VarHandle" ∧ (parseMethodDescriptor yX7_innerLine.desc).map (fun d => d.parameters.length) = some 1 := ⟨rfl, by decide +kernel⟩
theorem ds_yX7_isDigit_1 : yX7_isDigit.cls ≠ "java/lang/invoke/MethodHandle" ∧ yX7_isDigit.cls ≠ "java/lang/invoke/VarHandle" ∧ (parseMethodDescriptor yX7_isDigit.desc).map (fun d => d.parameters.length) = some 1 := by decide +kernel
theorem dv_yX7_isNode_1 : yX7_isNode.cls = RX7 ∧ yX7_isNode.cls ≠ "java/lang/invoke/MethodHandle" ∧ yX7_isNode.cls ≠ "java/lang/invoke/VarHandle" ∧ (parseMethodDescriptor yX7_isNode.desc).map (fun d => d.parameters.length) = some 1 := ⟨rfl, by decide +kernel⟩
theorem dv_yX7_isNot_1 : yX7_isNot.cls = RX7 ∧ yX7_isNot.cls ≠ "java/lang/invoke/MethodHandle" ∧ yX7_isNot.cls ≠ "java/lang/invoke/VarHandle" ∧ (parseMethodDescriptor yX7_isNot.desc).map (fun d => d.parameters.length) = some 1 := ⟨rfl, by decide +kernel⟩
theorem ds_yX7_isSmall_1 : yX7_isSmall.cls ≠ "java/lang/invoke/MethodHandle" ∧ yX7_isSmall.cls ≠ "java/lang/invoke/VarHandle" ∧ (parseMethodDescriptor yX7_isSmall.desc).map (fun d => d.parameters.length) = some 1 := by decide +kernel
theorem dv_yX7_isSoMuch_2 : yX7_isSoMuch.cls = RX7 ∧ yX7_isSoMuch.cls ≠ "java/lang/invoke/MethodHandle" ∧ yX7_isSoMuch.cls ≠ "java/lang/invoke/VarHandle" ∧ (parseMethodDescriptor yX7_isSoMuch.desc).map (fun d => d.parameters.length) = some 2 := ⟨rfl, by decide +kernel⟩
theorem dv_yX7_isWord_1 : yX7_isWord.cls = RX7 ∧ yX7_isWord.cls ≠ "java/lang/invoke/MethodHandle" ∧ yX7_isWord.cls ≠ "java/lang/invoke/VarHandle" ∧ (parseMethodDescriptor yX7_isWord.desc).map (fun d => d.parameters.length) = some 1 := ⟨rfl, by decide +kernel⟩
theorem dv_yX7_isWordNode_1 : yX7_isWordNode.cls = RX7 ∧ yX7_isWordNode.cls ≠ "java/lang/invoke/MethodHandle" ∧ yX7_isWordNode.cls ≠ "java/lang/invoke/VarHandle" ∧ (parseMethodDescriptor yX7_isWordNode.desc).map (fun d => d.parameters.length) = some 1 := ⟨rfl, by decide +kernel⟩
theorem dv_yX7_lay_1 : yX7_lay.cls = RX7 ∧ yX7_lay.cls ≠ "java/lang/invoke/MethodHandle" ∧ yX7_lay.cls ≠ "java/lang/invoke/VarHandle" ∧ (parseMethodDescriptor yX7_lay.desc).map (fun d => d.parameters.length) = some 1 := ⟨rfl, by decide +kernel⟩
theorem dv_yX7_layScale_0 : yX7_layScale.cls = RX7 ∧ yX7_layScale.cls ≠ "java/lang/invoke/MethodHandle" ∧ yX7_layScale.cls ≠ "java/lang/invoke/VarHandle" ∧ (parseMethodDescriptor yX7_layScale.desc).map (fun d => d.parameters.length) = some 0 := ⟨rfl, by decide +kernel⟩
theorem dv_yX7_leavesOf_1 : yX7_leavesOf.cls = RX7 ∧ yX7_leavesOf.cls ≠ "java/lang/invoke/MethodHandle" ∧ yX7_leavesOf.cls ≠ "java/lang/invoke/VarHandle" ∧ (parseMethodDescriptor yX7_leavesOf.desc).map (fun d => d.parameters.length) = some 1 := ⟨rfl, by decide +kernel⟩
theorem ds_yX7_lowest_3 : yX7_lowest.cls ≠ "java/lang/invoke/MethodHandle" ∧ yX7_lowest.cls ≠ "java/lang/invoke/VarHandle" ∧ (parseMethodDescriptor yX7_lowest.desc).map (fun d => d.parameters.length) = some 3 := by decide +kernel
theorem dv_yX7_must_1 : yX7_must.cls = RX7 ∧ yX7_must.cls ≠ "java/lang/invoke/MethodHandle" ∧ yX7_must.cls ≠ "java/lang/invoke/VarHandle" ∧ (parseMethodDescriptor yX7_must.desc).map (fun d => d.parameters.length) = some 1 := ⟨rfl, by decide +kernel⟩
theorem dv_yX7_mustName_0 : yX7_mustName.cls = RX7 ∧ yX7_mustName.cls ≠ "java/lang/invoke/MethodHandle" ∧ yX7_mustName.cls ≠ "java/lang/invoke/VarHandle" ∧ (parseMethodDescriptor yX7_mustName.desc).map (fun d => d.parameters.length) = some 0 := ⟨rfl, by decide +kernel⟩
theorem dv_yX7_newName_0 : yX7_newName.cls = RX7 ∧ yX7_newName.cls ≠ "java/lang/invoke/MethodHandle" ∧ yX7_newName.cls ≠ "java/lang/invoke/VarHandle" ∧ (parseMethodDescriptor yX7_newName.desc).map (fun d => d.parameters.length) = some 0 := ⟨rfl, by decide +kernel⟩
theorem dv_yX7_next_0 : yX7_next.cls = RX7 ∧ yX7_next.cls ≠ "java/lang/invoke/MethodHandle" ∧ yX7_next.cls ≠ "java/lang/invoke/VarHandle" ∧ (parseMethodDescriptor yX7_next.desc).map (fun d => d.parameters.length) = some 0 := ⟨rfl, by decide +kernel⟩
theorem dv_yX7_no_1 : yX7_no.cls = RX7 ∧ yX7_no.cls ≠ "java/lang/invoke/MethodHandle" ∧ yX7_no.cls ≠ "java/lang/invoke/VarHandle" ∧ (parseMethodDescriptor yX7_no.desc).map (fun d => d.parameters.length) = some 1 := ⟨rfl, by decide +kernel⟩
theorem dv_yX7_nodeHere_0 : yX7_nodeHere.cls = RX7 ∧ yX7_nodeHere.cls ≠ "java/lang/invoke/MethodHandle" ∧ yX7_nodeHere.cls ≠ "java/lang/invoke/VarHandle" ∧ (parseMethodDescriptor yX7_nodeHere.desc).map (fun d => d.parameters.length) = some 0 := ⟨rfl, by decide +kernel⟩
theorem dv_yX7_note_0 : yX7_note.cls = RX7 ∧ yX7_note.cls ≠ "java/lang/invoke/MethodHandle" ∧ yX7_note.cls ≠ "java/lang/invoke/VarHandle" ∧ (parseMethodDescriptor yX7_note.desc).map (fun d => d.parameters.length) = some 0 := ⟨rfl, by decide +kernel⟩
theorem dv_yX7_number_2 : yX7_number.cls = RX7 ∧ yX7_number.cls ≠ "java/lang/invoke/MethodHandle" ∧ yX7_number.cls ≠ "java/lang/invoke/VarHandle" ∧ (parseMethodDescriptor yX7_number.desc).map (fun d => d.parameters.length) = some 2 := ⟨rfl, by decide +kernel⟩
theorem ds_yX7_ones_1 : yX7_ones.cls ≠ "java/lang/invoke/MethodHandle" ∧ yX7_ones.cls ≠ "java/lang/invoke/VarHandle" ∧ (parseMethodDescriptor yX7_ones.desc).map (fun d => d.parameters.length) = some 1 := by decide +kernel
theorem dv_yX7_pass_0 : yX7_pass.cls = RX7 ∧ yX7_pass.cls ≠ "java/lang/invoke/MethodHandle" ∧ yX7_pass.cls ≠ "java/lang/invoke/VarHandle" ∧ (parseMethodDescriptor yX7_pass.desc).map (fun d => d.parameters.length) = some 0 := ⟨rfl, by decide +kernel⟩
theorem dv_yX7_readLine_0 : yX7_readLine.cls = RX7 ∧ yX7_readLine.cls ≠ "java/lang/invoke/MethodHandle" ∧ yX7_readLine.cls ≠ "java/lang/invoke/VarHandle" ∧ (parseMethodDescriptor yX7_readLine.desc).map (fun d => d.parameters.length) = some 0 := ⟨rfl, by decide +kernel⟩
theorem dv_yX7_saidLine_0 : yX7_saidLine.cls = RX7 ∧ yX7_saidLine.cls ≠ "java/lang/invoke/MethodHandle" ∧ yX7_saidLine.cls ≠ "java/lang/invoke/VarHandle" ∧ (parseMethodDescriptor yX7_saidLine.desc).map (fun d => d.parameters.length) = some 0 := ⟨rfl, by decide +kernel⟩
theorem dv_yX7_see_1 : yX7_see.cls = RX7 ∧ yX7_see.cls ≠ "java/lang/invoke/MethodHandle" ∧ yX7_see.cls ≠ "java/lang/invoke/VarHandle" ∧ (parseMethodDescriptor yX7_see.desc).map (fun d => d.parameters.length) = some 1 := ⟨rfl, by decide +kernel⟩
theorem dv_yX7_seekOrders_1 : yX7_seekOrders.cls = RX7 ∧ yX7_seekOrders.cls ≠ "java/lang/invoke/MethodHandle" ∧ yX7_seekOrders.cls ≠ "java/lang/invoke/VarHandle" ∧ (parseMethodDescriptor yX7_seekOrders.desc).map (fun d => d.parameters.length) = some 1 := ⟨rfl, by decide +kernel⟩
theorem dv_yX7_seekRests_1 : yX7_seekRests.cls = RX7 ∧ yX7_seekRests.cls ≠ "java/lang/invoke/MethodHandle" ∧ yX7_seekRests.cls ≠ "java/lang/invoke/VarHandle" ∧ (parseMethodDescriptor yX7_seekRests.desc).map (fun d => d.parameters.length) = some 1 := ⟨rfl, by decide +kernel⟩
theorem dv_yX7_seekSets_1 : yX7_seekSets.cls = RX7 ∧ yX7_seekSets.cls ≠ "java/lang/invoke/MethodHandle" ∧ yX7_seekSets.cls ≠ "java/lang/invoke/VarHandle" ∧ (parseMethodDescriptor yX7_seekSets.desc).map (fun d => d.parameters.length) = some 1 := ⟨rfl, by decide +kernel⟩
theorem dv_yX7_slipBy_2 : yX7_slipBy.cls = RX7 ∧ yX7_slipBy.cls ≠ "java/lang/invoke/MethodHandle" ∧ yX7_slipBy.cls ≠ "java/lang/invoke/VarHandle" ∧ (parseMethodDescriptor yX7_slipBy.desc).map (fun d => d.parameters.length) = some 2 := ⟨rfl, by decide +kernel⟩
theorem ds_yX7_speaksOf_3 : yX7_speaksOf.cls ≠ "java/lang/invoke/MethodHandle" ∧ yX7_speaksOf.cls ≠ "java/lang/invoke/VarHandle" ∧ (parseMethodDescriptor yX7_speaksOf.desc).map (fun d => d.parameters.length) = some 3 := by decide +kernel
theorem dv_yX7_takesWord_1 : yX7_takesWord.cls = RX7 ∧ yX7_takesWord.cls ≠ "java/lang/invoke/MethodHandle" ∧ yX7_takesWord.cls ≠ "java/lang/invoke/VarHandle" ∧ (parseMethodDescriptor yX7_takesWord.desc).map (fun d => d.parameters.length) = some 1 := ⟨rfl, by decide +kernel⟩
theorem dv_yX7_throneAt_1 : yX7_throneAt.cls = RX7 ∧ yX7_throneAt.cls ≠ "java/lang/invoke/MethodHandle" ∧ yX7_throneAt.cls ≠ "java/lang/invoke/VarHandle" ∧ (parseMethodDescriptor yX7_throneAt.desc).map (fun d => d.parameters.length) = some 1 := ⟨rfl, by decide +kernel⟩
theorem dv_yX7_throneBy_1 : yX7_throneBy.cls = RX7 ∧ yX7_throneBy.cls ≠ "java/lang/invoke/MethodHandle" ∧ yX7_throneBy.cls ≠ "java/lang/invoke/VarHandle" ∧ (parseMethodDescriptor yX7_throneBy.desc).map (fun d => d.parameters.length) = some 1 := ⟨rfl, by decide +kernel⟩
theorem dv_yX7_throneIf_2 : yX7_throneIf.cls = RX7 ∧ yX7_throneIf.cls ≠ "java/lang/invoke/MethodHandle" ∧ yX7_throneIf.cls ≠ "java/lang/invoke/VarHandle" ∧ (parseMethodDescriptor yX7_throneIf.desc).map (fun d => d.parameters.length) = some 2 := ⟨rfl, by decide +kernel⟩
theorem dv_yX7_throneLine_0 : yX7_throneLine.cls = RX7 ∧ yX7_throneLine.cls ≠ "java/lang/invoke/MethodHandle" ∧ yX7_throneLine.cls ≠ "java/lang/invoke/VarHandle" ∧ (parseMethodDescriptor yX7_throneLine.desc).map (fun d => d.parameters.length) = some 0 := ⟨rfl, by decide +kernel⟩
theorem dv_yX7_trySlips_1 : yX7_trySlips.cls = RX7 ∧ yX7_trySlips.cls ≠ "java/lang/invoke/MethodHandle" ∧ yX7_trySlips.cls ≠ "java/lang/invoke/VarHandle" ∧ (parseMethodDescriptor yX7_trySlips.desc).map (fun d => d.parameters.length) = some 1 := ⟨rfl, by decide +kernel⟩
theorem dv_yX7_turnOf_1 : yX7_turnOf.cls = RX7 ∧ yX7_turnOf.cls ≠ "java/lang/invoke/MethodHandle" ∧ yX7_turnOf.cls ≠ "java/lang/invoke/VarHandle" ∧ (parseMethodDescriptor yX7_turnOf.desc).map (fun d => d.parameters.length) = some 1 := ⟨rfl, by decide +kernel⟩
theorem dv_yX7_unsureLine_0 : yX7_unsureLine.cls = RX7 ∧ yX7_unsureLine.cls ≠ "java/lang/invoke/MethodHandle" ∧ yX7_unsureLine.cls ≠ "java/lang/invoke/VarHandle" ∧ (parseMethodDescriptor yX7_unsureLine.desc).map (fun d => d.parameters.length) = some 0 := ⟨rfl, by decide +kernel⟩
theorem dv_yX7_weightOf_2 : yX7_weightOf.cls = RX7 ∧ yX7_weightOf.cls ≠ "java/lang/invoke/MethodHandle" ∧ yX7_weightOf.cls ≠ "java/lang/invoke/VarHandle" ∧ (parseMethodDescriptor yX7_weightOf.desc).map (fun d => d.parameters.length) = some 2 := ⟨rfl, by decide +kernel⟩
theorem dv_yX7_weightsOf_1 : yX7_weightsOf.cls = RX7 ∧ yX7_weightsOf.cls ≠ "java/lang/invoke/MethodHandle" ∧ yX7_weightsOf.cls ≠ "java/lang/invoke/VarHandle" ∧ (parseMethodDescriptor yX7_weightsOf.desc).map (fun d => d.parameters.length) = some 1 := ⟨rfl, by decide +kernel⟩
theorem dv_yX7_wholeOf_1 : yX7_wholeOf.cls = RX7 ∧ yX7_wholeOf.cls ≠ "java/lang/invoke/MethodHandle" ∧ yX7_wholeOf.cls ≠ "java/lang/invoke/VarHandle" ∧ (parseMethodDescriptor yX7_wholeOf.desc).map (fun d => d.parameters.length) = some 1 := ⟨rfl, by decide +kernel⟩
theorem dv_yX7_wholesOf_1 : yX7_wholesOf.cls = RX7 ∧ yX7_wholesOf.cls ≠ "java/lang/invoke/MethodHandle" ∧ yX7_wholesOf.cls ≠ "java/lang/invoke/VarHandle" ∧ (parseMethodDescriptor yX7_wholesOf.desc).map (fun d => d.parameters.length) = some 1 := ⟨rfl, by decide +kernel⟩
theorem dv_yX7_why_1 : yX7_why.cls = RX7 ∧ yX7_why.cls ≠ "java/lang/invoke/MethodHandle" ∧ yX7_why.cls ≠ "java/lang/invoke/VarHandle" ∧ (parseMethodDescriptor yX7_why.desc).map (fun d => d.parameters.length) = some 1 := ⟨rfl, by decide +kernel⟩
theorem dv_yX7_wordLine_0 : yX7_wordLine.cls = RX7 ∧ yX7_wordLine.cls ≠ "java/lang/invoke/MethodHandle" ∧ yX7_wordLine.cls ≠ "java/lang/invoke/VarHandle" ∧ (parseMethodDescriptor yX7_wordLine.desc).map (fun d => d.parameters.length) = some 0 := ⟨rfl, by decide +kernel⟩
theorem dv_yX7_wordsBelow_1 : yX7_wordsBelow.cls = RX7 ∧ yX7_wordsBelow.cls ≠ "java/lang/invoke/MethodHandle" ∧ yX7_wordsBelow.cls ≠ "java/lang/invoke/VarHandle" ∧ (parseMethodDescriptor yX7_wordsBelow.desc).map (fun d => d.parameters.length) = some 1 := ⟨rfl, by decide +kernel⟩
theorem dv_yX7_worthAt_3 : yX7_worthAt.cls = RX7 ∧ yX7_worthAt.cls ≠ "java/lang/invoke/MethodHandle" ∧ yX7_worthAt.cls ≠ "java/lang/invoke/VarHandle" ∧ (parseMethodDescriptor yX7_worthAt.desc).map (fun d => d.parameters.length) = some 3 := ⟨rfl, by decide +kernel⟩
theorem dv_yX7_worthOf_2 : yX7_worthOf.cls = RX7 ∧ yX7_worthOf.cls ≠ "java/lang/invoke/MethodHandle" ∧ yX7_worthOf.cls ≠ "java/lang/invoke/VarHandle" ∧ (parseMethodDescriptor yX7_worthOf.desc).map (fun d => d.parameters.length) = some 2 := ⟨rfl, by decide +kernel⟩
theorem dv_yX7_wrong_2 : yX7_wrong.cls = RX7 ∧ yX7_wrong.cls ≠ "java/lang/invoke/MethodHandle" ∧ yX7_wrong.cls ≠ "java/lang/invoke/VarHandle" ∧ (parseMethodDescriptor yX7_wrong.desc).map (fun d => d.parameters.length) = some 2 := ⟨rfl, by decide +kernel⟩
theorem ex_1_0 {T0 : Type} {z : T0 → Prop} {G : Prop} (h : ∃ (x0 : T0), z x0) (k : ∀ (x0 : T0), z x0 → G) : G := by
  obtain ⟨x0, h0⟩ := h
  exact k x0 h0
theorem ex_1_1 {T0 : Type} {p0 z : T0 → Prop} {G : Prop} (h : ∃ (x0 : T0), p0 x0 ∧ z x0) (k : ∀ (x0 : T0), p0 x0 → z x0 → G) : G := by
  obtain ⟨x0, h0, h1⟩ := h
  exact k x0 h0 h1
theorem ex_1_2 {T0 : Type} {p0 p1 z : T0 → Prop} {G : Prop} (h : ∃ (x0 : T0), p0 x0 ∧ p1 x0 ∧ z x0) (k : ∀ (x0 : T0), p0 x0 → p1 x0 → z x0 → G) : G := by
  obtain ⟨x0, h0, h1, h2⟩ := h
  exact k x0 h0 h1 h2
theorem ex_1_3 {T0 : Type} {p0 p1 p2 z : T0 → Prop} {G : Prop} (h : ∃ (x0 : T0), p0 x0 ∧ p1 x0 ∧ p2 x0 ∧ z x0) (k : ∀ (x0 : T0), p0 x0 → p1 x0 → p2 x0 → z x0 → G) : G := by
  obtain ⟨x0, h0, h1, h2, h3⟩ := h
  exact k x0 h0 h1 h2 h3
theorem ex_2_0 {T0 T1 : Type} {z : T0 → T1 → Prop} {G : Prop} (h : ∃ (x0 : T0) (x1 : T1), z x0 x1) (k : ∀ (x0 : T0) (x1 : T1), z x0 x1 → G) : G := by
  obtain ⟨x0, x1, h0⟩ := h
  exact k x0 x1 h0
theorem ex_2_1 {T0 T1 : Type} {p0 z : T0 → T1 → Prop} {G : Prop} (h : ∃ (x0 : T0) (x1 : T1), p0 x0 x1 ∧ z x0 x1) (k : ∀ (x0 : T0) (x1 : T1), p0 x0 x1 → z x0 x1 → G) : G := by
  obtain ⟨x0, x1, h0, h1⟩ := h
  exact k x0 x1 h0 h1
theorem ex_2_2 {T0 T1 : Type} {p0 p1 z : T0 → T1 → Prop} {G : Prop} (h : ∃ (x0 : T0) (x1 : T1), p0 x0 x1 ∧ p1 x0 x1 ∧ z x0 x1) (k : ∀ (x0 : T0) (x1 : T1), p0 x0 x1 → p1 x0 x1 → z x0 x1 → G) : G := by
  obtain ⟨x0, x1, h0, h1, h2⟩ := h
  exact k x0 x1 h0 h1 h2
theorem ex_2_3 {T0 T1 : Type} {p0 p1 p2 z : T0 → T1 → Prop} {G : Prop} (h : ∃ (x0 : T0) (x1 : T1), p0 x0 x1 ∧ p1 x0 x1 ∧ p2 x0 x1 ∧ z x0 x1) (k : ∀ (x0 : T0) (x1 : T1), p0 x0 x1 → p1 x0 x1 → p2 x0 x1 → z x0 x1 → G) : G := by
  obtain ⟨x0, x1, h0, h1, h2, h3⟩ := h
  exact k x0 x1 h0 h1 h2 h3
theorem ex_3_0 {T0 T1 T2 : Type} {z : T0 → T1 → T2 → Prop} {G : Prop} (h : ∃ (x0 : T0) (x1 : T1) (x2 : T2), z x0 x1 x2) (k : ∀ (x0 : T0) (x1 : T1) (x2 : T2), z x0 x1 x2 → G) : G := by
  obtain ⟨x0, x1, x2, h0⟩ := h
  exact k x0 x1 x2 h0
theorem ex_3_1 {T0 T1 T2 : Type} {p0 z : T0 → T1 → T2 → Prop} {G : Prop} (h : ∃ (x0 : T0) (x1 : T1) (x2 : T2), p0 x0 x1 x2 ∧ z x0 x1 x2) (k : ∀ (x0 : T0) (x1 : T1) (x2 : T2), p0 x0 x1 x2 → z x0 x1 x2 → G) : G := by
  obtain ⟨x0, x1, x2, h0, h1⟩ := h
  exact k x0 x1 x2 h0 h1
theorem ex_3_2 {T0 T1 T2 : Type} {p0 p1 z : T0 → T1 → T2 → Prop} {G : Prop} (h : ∃ (x0 : T0) (x1 : T1) (x2 : T2), p0 x0 x1 x2 ∧ p1 x0 x1 x2 ∧ z x0 x1 x2) (k : ∀ (x0 : T0) (x1 : T1) (x2 : T2), p0 x0 x1 x2 → p1 x0 x1 x2 → z x0 x1 x2 → G) : G := by
  obtain ⟨x0, x1, x2, h0, h1, h2⟩ := h
  exact k x0 x1 x2 h0 h1 h2
theorem ex_3_3 {T0 T1 T2 : Type} {p0 p1 p2 z : T0 → T1 → T2 → Prop} {G : Prop} (h : ∃ (x0 : T0) (x1 : T1) (x2 : T2), p0 x0 x1 x2 ∧ p1 x0 x1 x2 ∧ p2 x0 x1 x2 ∧ z x0 x1 x2) (k : ∀ (x0 : T0) (x1 : T1) (x2 : T2), p0 x0 x1 x2 → p1 x0 x1 x2 → p2 x0 x1 x2 → z x0 x1 x2 → G) : G := by
  obtain ⟨x0, x1, x2, h0, h1, h2, h3⟩ := h
  exact k x0 x1 x2 h0 h1 h2 h3
theorem ex_3_4 {T0 T1 T2 : Type} {p0 p1 p2 p3 z : T0 → T1 → T2 → Prop} {G : Prop} (h : ∃ (x0 : T0) (x1 : T1) (x2 : T2), p0 x0 x1 x2 ∧ p1 x0 x1 x2 ∧ p2 x0 x1 x2 ∧ p3 x0 x1 x2 ∧ z x0 x1 x2) (k : ∀ (x0 : T0) (x1 : T1) (x2 : T2), p0 x0 x1 x2 → p1 x0 x1 x2 → p2 x0 x1 x2 → p3 x0 x1 x2 → z x0 x1 x2 → G) : G := by
  obtain ⟨x0, x1, x2, h0, h1, h2, h3, h4⟩ := h
  exact k x0 x1 x2 h0 h1 h2 h3 h4
theorem ex_4_0 {T0 T1 T2 T3 : Type} {z : T0 → T1 → T2 → T3 → Prop} {G : Prop} (h : ∃ (x0 : T0) (x1 : T1) (x2 : T2) (x3 : T3), z x0 x1 x2 x3) (k : ∀ (x0 : T0) (x1 : T1) (x2 : T2) (x3 : T3), z x0 x1 x2 x3 → G) : G := by
  obtain ⟨x0, x1, x2, x3, h0⟩ := h
  exact k x0 x1 x2 x3 h0
theorem ex_4_2 {T0 T1 T2 T3 : Type} {p0 p1 z : T0 → T1 → T2 → T3 → Prop} {G : Prop} (h : ∃ (x0 : T0) (x1 : T1) (x2 : T2) (x3 : T3), p0 x0 x1 x2 x3 ∧ p1 x0 x1 x2 x3 ∧ z x0 x1 x2 x3) (k : ∀ (x0 : T0) (x1 : T1) (x2 : T2) (x3 : T3), p0 x0 x1 x2 x3 → p1 x0 x1 x2 x3 → z x0 x1 x2 x3 → G) : G := by
  obtain ⟨x0, x1, x2, x3, h0, h1, h2⟩ := h
  exact k x0 x1 x2 x3 h0 h1 h2
theorem ex_4_3 {T0 T1 T2 T3 : Type} {p0 p1 p2 z : T0 → T1 → T2 → T3 → Prop} {G : Prop} (h : ∃ (x0 : T0) (x1 : T1) (x2 : T2) (x3 : T3), p0 x0 x1 x2 x3 ∧ p1 x0 x1 x2 x3 ∧ p2 x0 x1 x2 x3 ∧ z x0 x1 x2 x3) (k : ∀ (x0 : T0) (x1 : T1) (x2 : T2) (x3 : T3), p0 x0 x1 x2 x3 → p1 x0 x1 x2 x3 → p2 x0 x1 x2 x3 → z x0 x1 x2 x3 → G) : G := by
  obtain ⟨x0, x1, x2, x3, h0, h1, h2, h3⟩ := h
  exact k x0 x1 x2 x3 h0 h1 h2 h3
theorem ex_4_4 {T0 T1 T2 T3 : Type} {p0 p1 p2 p3 z : T0 → T1 → T2 → T3 → Prop} {G : Prop} (h : ∃ (x0 : T0) (x1 : T1) (x2 : T2) (x3 : T3), p0 x0 x1 x2 x3 ∧ p1 x0 x1 x2 x3 ∧ p2 x0 x1 x2 x3 ∧ p3 x0 x1 x2 x3 ∧ z x0 x1 x2 x3) (k : ∀ (x0 : T0) (x1 : T1) (x2 : T2) (x3 : T3), p0 x0 x1 x2 x3 → p1 x0 x1 x2 x3 → p2 x0 x1 x2 x3 → p3 x0 x1 x2 x3 → z x0 x1 x2 x3 → G) : G := by
  obtain ⟨x0, x1, x2, x3, h0, h1, h2, h3, h4⟩ := h
  exact k x0 x1 x2 x3 h0 h1 h2 h3 h4
theorem ex_4_5 {T0 T1 T2 T3 : Type} {p0 p1 p2 p3 p4 z : T0 → T1 → T2 → T3 → Prop} {G : Prop} (h : ∃ (x0 : T0) (x1 : T1) (x2 : T2) (x3 : T3), p0 x0 x1 x2 x3 ∧ p1 x0 x1 x2 x3 ∧ p2 x0 x1 x2 x3 ∧ p3 x0 x1 x2 x3 ∧ p4 x0 x1 x2 x3 ∧ z x0 x1 x2 x3) (k : ∀ (x0 : T0) (x1 : T1) (x2 : T2) (x3 : T3), p0 x0 x1 x2 x3 → p1 x0 x1 x2 x3 → p2 x0 x1 x2 x3 → p3 x0 x1 x2 x3 → p4 x0 x1 x2 x3 → z x0 x1 x2 x3 → G) : G := by
  obtain ⟨x0, x1, x2, x3, h0, h1, h2, h3, h4, h5⟩ := h
  exact k x0 x1 x2 x3 h0 h1 h2 h3 h4 h5
theorem ex_5_1 {T0 T1 T2 T3 T4 : Type} {p0 z : T0 → T1 → T2 → T3 → T4 → Prop} {G : Prop} (h : ∃ (x0 : T0) (x1 : T1) (x2 : T2) (x3 : T3) (x4 : T4), p0 x0 x1 x2 x3 x4 ∧ z x0 x1 x2 x3 x4) (k : ∀ (x0 : T0) (x1 : T1) (x2 : T2) (x3 : T3) (x4 : T4), p0 x0 x1 x2 x3 x4 → z x0 x1 x2 x3 x4 → G) : G := by
  obtain ⟨x0, x1, x2, x3, x4, h0, h1⟩ := h
  exact k x0 x1 x2 x3 x4 h0 h1
theorem ex_5_2 {T0 T1 T2 T3 T4 : Type} {p0 p1 z : T0 → T1 → T2 → T3 → T4 → Prop} {G : Prop} (h : ∃ (x0 : T0) (x1 : T1) (x2 : T2) (x3 : T3) (x4 : T4), p0 x0 x1 x2 x3 x4 ∧ p1 x0 x1 x2 x3 x4 ∧ z x0 x1 x2 x3 x4) (k : ∀ (x0 : T0) (x1 : T1) (x2 : T2) (x3 : T3) (x4 : T4), p0 x0 x1 x2 x3 x4 → p1 x0 x1 x2 x3 x4 → z x0 x1 x2 x3 x4 → G) : G := by
  obtain ⟨x0, x1, x2, x3, x4, h0, h1, h2⟩ := h
  exact k x0 x1 x2 x3 x4 h0 h1 h2
theorem ex_5_3 {T0 T1 T2 T3 T4 : Type} {p0 p1 p2 z : T0 → T1 → T2 → T3 → T4 → Prop} {G : Prop} (h : ∃ (x0 : T0) (x1 : T1) (x2 : T2) (x3 : T3) (x4 : T4), p0 x0 x1 x2 x3 x4 ∧ p1 x0 x1 x2 x3 x4 ∧ p2 x0 x1 x2 x3 x4 ∧ z x0 x1 x2 x3 x4) (k : ∀ (x0 : T0) (x1 : T1) (x2 : T2) (x3 : T3) (x4 : T4), p0 x0 x1 x2 x3 x4 → p1 x0 x1 x2 x3 x4 → p2 x0 x1 x2 x3 x4 → z x0 x1 x2 x3 x4 → G) : G := by
  obtain ⟨x0, x1, x2, x3, x4, h0, h1, h2, h3⟩ := h
  exact k x0 x1 x2 x3 x4 h0 h1 h2 h3
theorem ex_5_5 {T0 T1 T2 T3 T4 : Type} {p0 p1 p2 p3 p4 z : T0 → T1 → T2 → T3 → T4 → Prop} {G : Prop} (h : ∃ (x0 : T0) (x1 : T1) (x2 : T2) (x3 : T3) (x4 : T4), p0 x0 x1 x2 x3 x4 ∧ p1 x0 x1 x2 x3 x4 ∧ p2 x0 x1 x2 x3 x4 ∧ p3 x0 x1 x2 x3 x4 ∧ p4 x0 x1 x2 x3 x4 ∧ z x0 x1 x2 x3 x4) (k : ∀ (x0 : T0) (x1 : T1) (x2 : T2) (x3 : T3) (x4 : T4), p0 x0 x1 x2 x3 x4 → p1 x0 x1 x2 x3 x4 → p2 x0 x1 x2 x3 x4 → p3 x0 x1 x2 x3 x4 → p4 x0 x1 x2 x3 x4 → z x0 x1 x2 x3 x4 → G) : G := by
  obtain ⟨x0, x1, x2, x3, x4, h0, h1, h2, h3, h4, h5⟩ := h
  exact k x0 x1 x2 x3 x4 h0 h1 h2 h3 h4 h5
theorem ex_6_1 {T0 T1 T2 T3 T4 T5 : Type} {p0 z : T0 → T1 → T2 → T3 → T4 → T5 → Prop} {G : Prop} (h : ∃ (x0 : T0) (x1 : T1) (x2 : T2) (x3 : T3) (x4 : T4) (x5 : T5), p0 x0 x1 x2 x3 x4 x5 ∧ z x0 x1 x2 x3 x4 x5) (k : ∀ (x0 : T0) (x1 : T1) (x2 : T2) (x3 : T3) (x4 : T4) (x5 : T5), p0 x0 x1 x2 x3 x4 x5 → z x0 x1 x2 x3 x4 x5 → G) : G := by
  obtain ⟨x0, x1, x2, x3, x4, x5, h0, h1⟩ := h
  exact k x0 x1 x2 x3 x4 x5 h0 h1
theorem ex_6_2 {T0 T1 T2 T3 T4 T5 : Type} {p0 p1 z : T0 → T1 → T2 → T3 → T4 → T5 → Prop} {G : Prop} (h : ∃ (x0 : T0) (x1 : T1) (x2 : T2) (x3 : T3) (x4 : T4) (x5 : T5), p0 x0 x1 x2 x3 x4 x5 ∧ p1 x0 x1 x2 x3 x4 x5 ∧ z x0 x1 x2 x3 x4 x5) (k : ∀ (x0 : T0) (x1 : T1) (x2 : T2) (x3 : T3) (x4 : T4) (x5 : T5), p0 x0 x1 x2 x3 x4 x5 → p1 x0 x1 x2 x3 x4 x5 → z x0 x1 x2 x3 x4 x5 → G) : G := by
  obtain ⟨x0, x1, x2, x3, x4, x5, h0, h1, h2⟩ := h
  exact k x0 x1 x2 x3 x4 x5 h0 h1 h2
theorem ex_6_3 {T0 T1 T2 T3 T4 T5 : Type} {p0 p1 p2 z : T0 → T1 → T2 → T3 → T4 → T5 → Prop} {G : Prop} (h : ∃ (x0 : T0) (x1 : T1) (x2 : T2) (x3 : T3) (x4 : T4) (x5 : T5), p0 x0 x1 x2 x3 x4 x5 ∧ p1 x0 x1 x2 x3 x4 x5 ∧ p2 x0 x1 x2 x3 x4 x5 ∧ z x0 x1 x2 x3 x4 x5) (k : ∀ (x0 : T0) (x1 : T1) (x2 : T2) (x3 : T3) (x4 : T4) (x5 : T5), p0 x0 x1 x2 x3 x4 x5 → p1 x0 x1 x2 x3 x4 x5 → p2 x0 x1 x2 x3 x4 x5 → z x0 x1 x2 x3 x4 x5 → G) : G := by
  obtain ⟨x0, x1, x2, x3, x4, x5, h0, h1, h2, h3⟩ := h
  exact k x0 x1 x2 x3 x4 x5 h0 h1 h2 h3
theorem ex_6_5 {T0 T1 T2 T3 T4 T5 : Type} {p0 p1 p2 p3 p4 z : T0 → T1 → T2 → T3 → T4 → T5 → Prop} {G : Prop} (h : ∃ (x0 : T0) (x1 : T1) (x2 : T2) (x3 : T3) (x4 : T4) (x5 : T5), p0 x0 x1 x2 x3 x4 x5 ∧ p1 x0 x1 x2 x3 x4 x5 ∧ p2 x0 x1 x2 x3 x4 x5 ∧ p3 x0 x1 x2 x3 x4 x5 ∧ p4 x0 x1 x2 x3 x4 x5 ∧ z x0 x1 x2 x3 x4 x5) (k : ∀ (x0 : T0) (x1 : T1) (x2 : T2) (x3 : T3) (x4 : T4) (x5 : T5), p0 x0 x1 x2 x3 x4 x5 → p1 x0 x1 x2 x3 x4 x5 → p2 x0 x1 x2 x3 x4 x5 → p3 x0 x1 x2 x3 x4 x5 → p4 x0 x1 x2 x3 x4 x5 → z x0 x1 x2 x3 x4 x5 → G) : G := by
  obtain ⟨x0, x1, x2, x3, x4, x5, h0, h1, h2, h3, h4, h5⟩ := h
  exact k x0 x1 x2 x3 x4 x5 h0 h1 h2 h3 h4 h5
theorem ex_6_6 {T0 T1 T2 T3 T4 T5 : Type} {p0 p1 p2 p3 p4 p5 z : T0 → T1 → T2 → T3 → T4 → T5 → Prop} {G : Prop} (h : ∃ (x0 : T0) (x1 : T1) (x2 : T2) (x3 : T3) (x4 : T4) (x5 : T5), p0 x0 x1 x2 x3 x4 x5 ∧ p1 x0 x1 x2 x3 x4 x5 ∧ p2 x0 x1 x2 x3 x4 x5 ∧ p3 x0 x1 x2 x3 x4 x5 ∧ p4 x0 x1 x2 x3 x4 x5 ∧ p5 x0 x1 x2 x3 x4 x5 ∧ z x0 x1 x2 x3 x4 x5) (k : ∀ (x0 : T0) (x1 : T1) (x2 : T2) (x3 : T3) (x4 : T4) (x5 : T5), p0 x0 x1 x2 x3 x4 x5 → p1 x0 x1 x2 x3 x4 x5 → p2 x0 x1 x2 x3 x4 x5 → p3 x0 x1 x2 x3 x4 x5 → p4 x0 x1 x2 x3 x4 x5 → p5 x0 x1 x2 x3 x4 x5 → z x0 x1 x2 x3 x4 x5 → G) : G := by
  obtain ⟨x0, x1, x2, x3, x4, x5, h0, h1, h2, h3, h4, h5, h6⟩ := h
  exact k x0 x1 x2 x3 x4 x5 h0 h1 h2 h3 h4 h5 h6
theorem ex_7_0 {T0 T1 T2 T3 T4 T5 T6 : Type} {z : T0 → T1 → T2 → T3 → T4 → T5 → T6 → Prop} {G : Prop} (h : ∃ (x0 : T0) (x1 : T1) (x2 : T2) (x3 : T3) (x4 : T4) (x5 : T5) (x6 : T6), z x0 x1 x2 x3 x4 x5 x6) (k : ∀ (x0 : T0) (x1 : T1) (x2 : T2) (x3 : T3) (x4 : T4) (x5 : T5) (x6 : T6), z x0 x1 x2 x3 x4 x5 x6 → G) : G := by
  obtain ⟨x0, x1, x2, x3, x4, x5, x6, h0⟩ := h
  exact k x0 x1 x2 x3 x4 x5 x6 h0
theorem ex_7_1 {T0 T1 T2 T3 T4 T5 T6 : Type} {p0 z : T0 → T1 → T2 → T3 → T4 → T5 → T6 → Prop} {G : Prop} (h : ∃ (x0 : T0) (x1 : T1) (x2 : T2) (x3 : T3) (x4 : T4) (x5 : T5) (x6 : T6), p0 x0 x1 x2 x3 x4 x5 x6 ∧ z x0 x1 x2 x3 x4 x5 x6) (k : ∀ (x0 : T0) (x1 : T1) (x2 : T2) (x3 : T3) (x4 : T4) (x5 : T5) (x6 : T6), p0 x0 x1 x2 x3 x4 x5 x6 → z x0 x1 x2 x3 x4 x5 x6 → G) : G := by
  obtain ⟨x0, x1, x2, x3, x4, x5, x6, h0, h1⟩ := h
  exact k x0 x1 x2 x3 x4 x5 x6 h0 h1
theorem ex_7_2 {T0 T1 T2 T3 T4 T5 T6 : Type} {p0 p1 z : T0 → T1 → T2 → T3 → T4 → T5 → T6 → Prop} {G : Prop} (h : ∃ (x0 : T0) (x1 : T1) (x2 : T2) (x3 : T3) (x4 : T4) (x5 : T5) (x6 : T6), p0 x0 x1 x2 x3 x4 x5 x6 ∧ p1 x0 x1 x2 x3 x4 x5 x6 ∧ z x0 x1 x2 x3 x4 x5 x6) (k : ∀ (x0 : T0) (x1 : T1) (x2 : T2) (x3 : T3) (x4 : T4) (x5 : T5) (x6 : T6), p0 x0 x1 x2 x3 x4 x5 x6 → p1 x0 x1 x2 x3 x4 x5 x6 → z x0 x1 x2 x3 x4 x5 x6 → G) : G := by
  obtain ⟨x0, x1, x2, x3, x4, x5, x6, h0, h1, h2⟩ := h
  exact k x0 x1 x2 x3 x4 x5 x6 h0 h1 h2
theorem ex_7_3 {T0 T1 T2 T3 T4 T5 T6 : Type} {p0 p1 p2 z : T0 → T1 → T2 → T3 → T4 → T5 → T6 → Prop} {G : Prop} (h : ∃ (x0 : T0) (x1 : T1) (x2 : T2) (x3 : T3) (x4 : T4) (x5 : T5) (x6 : T6), p0 x0 x1 x2 x3 x4 x5 x6 ∧ p1 x0 x1 x2 x3 x4 x5 x6 ∧ p2 x0 x1 x2 x3 x4 x5 x6 ∧ z x0 x1 x2 x3 x4 x5 x6) (k : ∀ (x0 : T0) (x1 : T1) (x2 : T2) (x3 : T3) (x4 : T4) (x5 : T5) (x6 : T6), p0 x0 x1 x2 x3 x4 x5 x6 → p1 x0 x1 x2 x3 x4 x5 x6 → p2 x0 x1 x2 x3 x4 x5 x6 → z x0 x1 x2 x3 x4 x5 x6 → G) : G := by
  obtain ⟨x0, x1, x2, x3, x4, x5, x6, h0, h1, h2, h3⟩ := h
  exact k x0 x1 x2 x3 x4 x5 x6 h0 h1 h2 h3
theorem ex_7_4 {T0 T1 T2 T3 T4 T5 T6 : Type} {p0 p1 p2 p3 z : T0 → T1 → T2 → T3 → T4 → T5 → T6 → Prop} {G : Prop} (h : ∃ (x0 : T0) (x1 : T1) (x2 : T2) (x3 : T3) (x4 : T4) (x5 : T5) (x6 : T6), p0 x0 x1 x2 x3 x4 x5 x6 ∧ p1 x0 x1 x2 x3 x4 x5 x6 ∧ p2 x0 x1 x2 x3 x4 x5 x6 ∧ p3 x0 x1 x2 x3 x4 x5 x6 ∧ z x0 x1 x2 x3 x4 x5 x6) (k : ∀ (x0 : T0) (x1 : T1) (x2 : T2) (x3 : T3) (x4 : T4) (x5 : T5) (x6 : T6), p0 x0 x1 x2 x3 x4 x5 x6 → p1 x0 x1 x2 x3 x4 x5 x6 → p2 x0 x1 x2 x3 x4 x5 x6 → p3 x0 x1 x2 x3 x4 x5 x6 → z x0 x1 x2 x3 x4 x5 x6 → G) : G := by
  obtain ⟨x0, x1, x2, x3, x4, x5, x6, h0, h1, h2, h3, h4⟩ := h
  exact k x0 x1 x2 x3 x4 x5 x6 h0 h1 h2 h3 h4
theorem ex_8_3 {T0 T1 T2 T3 T4 T5 T6 T7 : Type} {p0 p1 p2 z : T0 → T1 → T2 → T3 → T4 → T5 → T6 → T7 → Prop} {G : Prop} (h : ∃ (x0 : T0) (x1 : T1) (x2 : T2) (x3 : T3) (x4 : T4) (x5 : T5) (x6 : T6) (x7 : T7), p0 x0 x1 x2 x3 x4 x5 x6 x7 ∧ p1 x0 x1 x2 x3 x4 x5 x6 x7 ∧ p2 x0 x1 x2 x3 x4 x5 x6 x7 ∧ z x0 x1 x2 x3 x4 x5 x6 x7) (k : ∀ (x0 : T0) (x1 : T1) (x2 : T2) (x3 : T3) (x4 : T4) (x5 : T5) (x6 : T6) (x7 : T7), p0 x0 x1 x2 x3 x4 x5 x6 x7 → p1 x0 x1 x2 x3 x4 x5 x6 x7 → p2 x0 x1 x2 x3 x4 x5 x6 x7 → z x0 x1 x2 x3 x4 x5 x6 x7 → G) : G := by
  obtain ⟨x0, x1, x2, x3, x4, x5, x6, x7, h0, h1, h2, h3⟩ := h
  exact k x0 x1 x2 x3 x4 x5 x6 x7 h0 h1 h2 h3
theorem ex_8_4 {T0 T1 T2 T3 T4 T5 T6 T7 : Type} {p0 p1 p2 p3 z : T0 → T1 → T2 → T3 → T4 → T5 → T6 → T7 → Prop} {G : Prop} (h : ∃ (x0 : T0) (x1 : T1) (x2 : T2) (x3 : T3) (x4 : T4) (x5 : T5) (x6 : T6) (x7 : T7), p0 x0 x1 x2 x3 x4 x5 x6 x7 ∧ p1 x0 x1 x2 x3 x4 x5 x6 x7 ∧ p2 x0 x1 x2 x3 x4 x5 x6 x7 ∧ p3 x0 x1 x2 x3 x4 x5 x6 x7 ∧ z x0 x1 x2 x3 x4 x5 x6 x7) (k : ∀ (x0 : T0) (x1 : T1) (x2 : T2) (x3 : T3) (x4 : T4) (x5 : T5) (x6 : T6) (x7 : T7), p0 x0 x1 x2 x3 x4 x5 x6 x7 → p1 x0 x1 x2 x3 x4 x5 x6 x7 → p2 x0 x1 x2 x3 x4 x5 x6 x7 → p3 x0 x1 x2 x3 x4 x5 x6 x7 → z x0 x1 x2 x3 x4 x5 x6 x7 → G) : G := by
  obtain ⟨x0, x1, x2, x3, x4, x5, x6, x7, h0, h1, h2, h3, h4⟩ := h
  exact k x0 x1 x2 x3 x4 x5 x6 x7 h0 h1 h2 h3 h4
theorem ex_8_5 {T0 T1 T2 T3 T4 T5 T6 T7 : Type} {p0 p1 p2 p3 p4 z : T0 → T1 → T2 → T3 → T4 → T5 → T6 → T7 → Prop} {G : Prop} (h : ∃ (x0 : T0) (x1 : T1) (x2 : T2) (x3 : T3) (x4 : T4) (x5 : T5) (x6 : T6) (x7 : T7), p0 x0 x1 x2 x3 x4 x5 x6 x7 ∧ p1 x0 x1 x2 x3 x4 x5 x6 x7 ∧ p2 x0 x1 x2 x3 x4 x5 x6 x7 ∧ p3 x0 x1 x2 x3 x4 x5 x6 x7 ∧ p4 x0 x1 x2 x3 x4 x5 x6 x7 ∧ z x0 x1 x2 x3 x4 x5 x6 x7) (k : ∀ (x0 : T0) (x1 : T1) (x2 : T2) (x3 : T3) (x4 : T4) (x5 : T5) (x6 : T6) (x7 : T7), p0 x0 x1 x2 x3 x4 x5 x6 x7 → p1 x0 x1 x2 x3 x4 x5 x6 x7 → p2 x0 x1 x2 x3 x4 x5 x6 x7 → p3 x0 x1 x2 x3 x4 x5 x6 x7 → p4 x0 x1 x2 x3 x4 x5 x6 x7 → z x0 x1 x2 x3 x4 x5 x6 x7 → G) : G := by
  obtain ⟨x0, x1, x2, x3, x4, x5, x6, x7, h0, h1, h2, h3, h4, h5⟩ := h
  exact k x0 x1 x2 x3 x4 x5 x6 x7 h0 h1 h2 h3 h4 h5
theorem ex_8_9 {T0 T1 T2 T3 T4 T5 T6 T7 : Type} {p0 p1 p2 p3 p4 p5 p6 p7 p8 z : T0 → T1 → T2 → T3 → T4 → T5 → T6 → T7 → Prop} {G : Prop} (h : ∃ (x0 : T0) (x1 : T1) (x2 : T2) (x3 : T3) (x4 : T4) (x5 : T5) (x6 : T6) (x7 : T7), p0 x0 x1 x2 x3 x4 x5 x6 x7 ∧ p1 x0 x1 x2 x3 x4 x5 x6 x7 ∧ p2 x0 x1 x2 x3 x4 x5 x6 x7 ∧ p3 x0 x1 x2 x3 x4 x5 x6 x7 ∧ p4 x0 x1 x2 x3 x4 x5 x6 x7 ∧ p5 x0 x1 x2 x3 x4 x5 x6 x7 ∧ p6 x0 x1 x2 x3 x4 x5 x6 x7 ∧ p7 x0 x1 x2 x3 x4 x5 x6 x7 ∧ p8 x0 x1 x2 x3 x4 x5 x6 x7 ∧ z x0 x1 x2 x3 x4 x5 x6 x7) (k : ∀ (x0 : T0) (x1 : T1) (x2 : T2) (x3 : T3) (x4 : T4) (x5 : T5) (x6 : T6) (x7 : T7), p0 x0 x1 x2 x3 x4 x5 x6 x7 → p1 x0 x1 x2 x3 x4 x5 x6 x7 → p2 x0 x1 x2 x3 x4 x5 x6 x7 → p3 x0 x1 x2 x3 x4 x5 x6 x7 → p4 x0 x1 x2 x3 x4 x5 x6 x7 → p5 x0 x1 x2 x3 x4 x5 x6 x7 → p6 x0 x1 x2 x3 x4 x5 x6 x7 → p7 x0 x1 x2 x3 x4 x5 x6 x7 → p8 x0 x1 x2 x3 x4 x5 x6 x7 → z x0 x1 x2 x3 x4 x5 x6 x7 → G) : G := by
  obtain ⟨x0, x1, x2, x3, x4, x5, x6, x7, h0, h1, h2, h3, h4, h5, h6, h7, h8, h9⟩ := h
  exact k x0 x1 x2 x3 x4 x5 x6 x7 h0 h1 h2 h3 h4 h5 h6 h7 h8 h9
theorem ex_9_1 {T0 T1 T2 T3 T4 T5 T6 T7 T8 : Type} {p0 z : T0 → T1 → T2 → T3 → T4 → T5 → T6 → T7 → T8 → Prop} {G : Prop} (h : ∃ (x0 : T0) (x1 : T1) (x2 : T2) (x3 : T3) (x4 : T4) (x5 : T5) (x6 : T6) (x7 : T7) (x8 : T8), p0 x0 x1 x2 x3 x4 x5 x6 x7 x8 ∧ z x0 x1 x2 x3 x4 x5 x6 x7 x8) (k : ∀ (x0 : T0) (x1 : T1) (x2 : T2) (x3 : T3) (x4 : T4) (x5 : T5) (x6 : T6) (x7 : T7) (x8 : T8), p0 x0 x1 x2 x3 x4 x5 x6 x7 x8 → z x0 x1 x2 x3 x4 x5 x6 x7 x8 → G) : G := by
  obtain ⟨x0, x1, x2, x3, x4, x5, x6, x7, x8, h0, h1⟩ := h
  exact k x0 x1 x2 x3 x4 x5 x6 x7 x8 h0 h1
theorem ex_9_2 {T0 T1 T2 T3 T4 T5 T6 T7 T8 : Type} {p0 p1 z : T0 → T1 → T2 → T3 → T4 → T5 → T6 → T7 → T8 → Prop} {G : Prop} (h : ∃ (x0 : T0) (x1 : T1) (x2 : T2) (x3 : T3) (x4 : T4) (x5 : T5) (x6 : T6) (x7 : T7) (x8 : T8), p0 x0 x1 x2 x3 x4 x5 x6 x7 x8 ∧ p1 x0 x1 x2 x3 x4 x5 x6 x7 x8 ∧ z x0 x1 x2 x3 x4 x5 x6 x7 x8) (k : ∀ (x0 : T0) (x1 : T1) (x2 : T2) (x3 : T3) (x4 : T4) (x5 : T5) (x6 : T6) (x7 : T7) (x8 : T8), p0 x0 x1 x2 x3 x4 x5 x6 x7 x8 → p1 x0 x1 x2 x3 x4 x5 x6 x7 x8 → z x0 x1 x2 x3 x4 x5 x6 x7 x8 → G) : G := by
  obtain ⟨x0, x1, x2, x3, x4, x5, x6, x7, x8, h0, h1, h2⟩ := h
  exact k x0 x1 x2 x3 x4 x5 x6 x7 x8 h0 h1 h2
theorem ex_9_5 {T0 T1 T2 T3 T4 T5 T6 T7 T8 : Type} {p0 p1 p2 p3 p4 z : T0 → T1 → T2 → T3 → T4 → T5 → T6 → T7 → T8 → Prop} {G : Prop} (h : ∃ (x0 : T0) (x1 : T1) (x2 : T2) (x3 : T3) (x4 : T4) (x5 : T5) (x6 : T6) (x7 : T7) (x8 : T8), p0 x0 x1 x2 x3 x4 x5 x6 x7 x8 ∧ p1 x0 x1 x2 x3 x4 x5 x6 x7 x8 ∧ p2 x0 x1 x2 x3 x4 x5 x6 x7 x8 ∧ p3 x0 x1 x2 x3 x4 x5 x6 x7 x8 ∧ p4 x0 x1 x2 x3 x4 x5 x6 x7 x8 ∧ z x0 x1 x2 x3 x4 x5 x6 x7 x8) (k : ∀ (x0 : T0) (x1 : T1) (x2 : T2) (x3 : T3) (x4 : T4) (x5 : T5) (x6 : T6) (x7 : T7) (x8 : T8), p0 x0 x1 x2 x3 x4 x5 x6 x7 x8 → p1 x0 x1 x2 x3 x4 x5 x6 x7 x8 → p2 x0 x1 x2 x3 x4 x5 x6 x7 x8 → p3 x0 x1 x2 x3 x4 x5 x6 x7 x8 → p4 x0 x1 x2 x3 x4 x5 x6 x7 x8 → z x0 x1 x2 x3 x4 x5 x6 x7 x8 → G) : G := by
  obtain ⟨x0, x1, x2, x3, x4, x5, x6, x7, x8, h0, h1, h2, h3, h4, h5⟩ := h
  exact k x0 x1 x2 x3 x4 x5 x6 x7 x8 h0 h1 h2 h3 h4 h5
theorem ex_9_8 {T0 T1 T2 T3 T4 T5 T6 T7 T8 : Type} {p0 p1 p2 p3 p4 p5 p6 p7 z : T0 → T1 → T2 → T3 → T4 → T5 → T6 → T7 → T8 → Prop} {G : Prop} (h : ∃ (x0 : T0) (x1 : T1) (x2 : T2) (x3 : T3) (x4 : T4) (x5 : T5) (x6 : T6) (x7 : T7) (x8 : T8), p0 x0 x1 x2 x3 x4 x5 x6 x7 x8 ∧ p1 x0 x1 x2 x3 x4 x5 x6 x7 x8 ∧ p2 x0 x1 x2 x3 x4 x5 x6 x7 x8 ∧ p3 x0 x1 x2 x3 x4 x5 x6 x7 x8 ∧ p4 x0 x1 x2 x3 x4 x5 x6 x7 x8 ∧ p5 x0 x1 x2 x3 x4 x5 x6 x7 x8 ∧ p6 x0 x1 x2 x3 x4 x5 x6 x7 x8 ∧ p7 x0 x1 x2 x3 x4 x5 x6 x7 x8 ∧ z x0 x1 x2 x3 x4 x5 x6 x7 x8) (k : ∀ (x0 : T0) (x1 : T1) (x2 : T2) (x3 : T3) (x4 : T4) (x5 : T5) (x6 : T6) (x7 : T7) (x8 : T8), p0 x0 x1 x2 x3 x4 x5 x6 x7 x8 → p1 x0 x1 x2 x3 x4 x5 x6 x7 x8 → p2 x0 x1 x2 x3 x4 x5 x6 x7 x8 → p3 x0 x1 x2 x3 x4 x5 x6 x7 x8 → p4 x0 x1 x2 x3 x4 x5 x6 x7 x8 → p5 x0 x1 x2 x3 x4 x5 x6 x7 x8 → p6 x0 x1 x2 x3 x4 x5 x6 x7 x8 → p7 x0 x1 x2 x3 x4 x5 x6 x7 x8 → z x0 x1 x2 x3 x4 x5 x6 x7 x8 → G) : G := by
  obtain ⟨x0, x1, x2, x3, x4, x5, x6, x7, x8, h0, h1, h2, h3, h4, h5, h6, h7, h8⟩ := h
  exact k x0 x1 x2 x3 x4 x5 x6 x7 x8 h0 h1 h2 h3 h4 h5 h6 h7 h8
theorem ex_9_9 {T0 T1 T2 T3 T4 T5 T6 T7 T8 : Type} {p0 p1 p2 p3 p4 p5 p6 p7 p8 z : T0 → T1 → T2 → T3 → T4 → T5 → T6 → T7 → T8 → Prop} {G : Prop} (h : ∃ (x0 : T0) (x1 : T1) (x2 : T2) (x3 : T3) (x4 : T4) (x5 : T5) (x6 : T6) (x7 : T7) (x8 : T8), p0 x0 x1 x2 x3 x4 x5 x6 x7 x8 ∧ p1 x0 x1 x2 x3 x4 x5 x6 x7 x8 ∧ p2 x0 x1 x2 x3 x4 x5 x6 x7 x8 ∧ p3 x0 x1 x2 x3 x4 x5 x6 x7 x8 ∧ p4 x0 x1 x2 x3 x4 x5 x6 x7 x8 ∧ p5 x0 x1 x2 x3 x4 x5 x6 x7 x8 ∧ p6 x0 x1 x2 x3 x4 x5 x6 x7 x8 ∧ p7 x0 x1 x2 x3 x4 x5 x6 x7 x8 ∧ p8 x0 x1 x2 x3 x4 x5 x6 x7 x8 ∧ z x0 x1 x2 x3 x4 x5 x6 x7 x8) (k : ∀ (x0 : T0) (x1 : T1) (x2 : T2) (x3 : T3) (x4 : T4) (x5 : T5) (x6 : T6) (x7 : T7) (x8 : T8), p0 x0 x1 x2 x3 x4 x5 x6 x7 x8 → p1 x0 x1 x2 x3 x4 x5 x6 x7 x8 → p2 x0 x1 x2 x3 x4 x5 x6 x7 x8 → p3 x0 x1 x2 x3 x4 x5 x6 x7 x8 → p4 x0 x1 x2 x3 x4 x5 x6 x7 x8 → p5 x0 x1 x2 x3 x4 x5 x6 x7 x8 → p6 x0 x1 x2 x3 x4 x5 x6 x7 x8 → p7 x0 x1 x2 x3 x4 x5 x6 x7 x8 → p8 x0 x1 x2 x3 x4 x5 x6 x7 x8 → z x0 x1 x2 x3 x4 x5 x6 x7 x8 → G) : G := by
  obtain ⟨x0, x1, x2, x3, x4, x5, x6, x7, x8, h0, h1, h2, h3, h4, h5, h6, h7, h8, h9⟩ := h
  exact k x0 x1 x2 x3 x4 x5 x6 x7 x8 h0 h1 h2 h3 h4 h5 h6 h7 h8 h9
theorem ex_10_2 {T0 T1 T2 T3 T4 T5 T6 T7 T8 T9 : Type} {p0 p1 z : T0 → T1 → T2 → T3 → T4 → T5 → T6 → T7 → T8 → T9 → Prop} {G : Prop} (h : ∃ (x0 : T0) (x1 : T1) (x2 : T2) (x3 : T3) (x4 : T4) (x5 : T5) (x6 : T6) (x7 : T7) (x8 : T8) (x9 : T9), p0 x0 x1 x2 x3 x4 x5 x6 x7 x8 x9 ∧ p1 x0 x1 x2 x3 x4 x5 x6 x7 x8 x9 ∧ z x0 x1 x2 x3 x4 x5 x6 x7 x8 x9) (k : ∀ (x0 : T0) (x1 : T1) (x2 : T2) (x3 : T3) (x4 : T4) (x5 : T5) (x6 : T6) (x7 : T7) (x8 : T8) (x9 : T9), p0 x0 x1 x2 x3 x4 x5 x6 x7 x8 x9 → p1 x0 x1 x2 x3 x4 x5 x6 x7 x8 x9 → z x0 x1 x2 x3 x4 x5 x6 x7 x8 x9 → G) : G := by
  obtain ⟨x0, x1, x2, x3, x4, x5, x6, x7, x8, x9, h0, h1, h2⟩ := h
  exact k x0 x1 x2 x3 x4 x5 x6 x7 x8 x9 h0 h1 h2
theorem ex_10_3 {T0 T1 T2 T3 T4 T5 T6 T7 T8 T9 : Type} {p0 p1 p2 z : T0 → T1 → T2 → T3 → T4 → T5 → T6 → T7 → T8 → T9 → Prop} {G : Prop} (h : ∃ (x0 : T0) (x1 : T1) (x2 : T2) (x3 : T3) (x4 : T4) (x5 : T5) (x6 : T6) (x7 : T7) (x8 : T8) (x9 : T9), p0 x0 x1 x2 x3 x4 x5 x6 x7 x8 x9 ∧ p1 x0 x1 x2 x3 x4 x5 x6 x7 x8 x9 ∧ p2 x0 x1 x2 x3 x4 x5 x6 x7 x8 x9 ∧ z x0 x1 x2 x3 x4 x5 x6 x7 x8 x9) (k : ∀ (x0 : T0) (x1 : T1) (x2 : T2) (x3 : T3) (x4 : T4) (x5 : T5) (x6 : T6) (x7 : T7) (x8 : T8) (x9 : T9), p0 x0 x1 x2 x3 x4 x5 x6 x7 x8 x9 → p1 x0 x1 x2 x3 x4 x5 x6 x7 x8 x9 → p2 x0 x1 x2 x3 x4 x5 x6 x7 x8 x9 → z x0 x1 x2 x3 x4 x5 x6 x7 x8 x9 → G) : G := by
  obtain ⟨x0, x1, x2, x3, x4, x5, x6, x7, x8, x9, h0, h1, h2, h3⟩ := h
  exact k x0 x1 x2 x3 x4 x5 x6 x7 x8 x9 h0 h1 h2 h3
theorem ex_10_9 {T0 T1 T2 T3 T4 T5 T6 T7 T8 T9 : Type} {p0 p1 p2 p3 p4 p5 p6 p7 p8 z : T0 → T1 → T2 → T3 → T4 → T5 → T6 → T7 → T8 → T9 → Prop} {G : Prop} (h : ∃ (x0 : T0) (x1 : T1) (x2 : T2) (x3 : T3) (x4 : T4) (x5 : T5) (x6 : T6) (x7 : T7) (x8 : T8) (x9 : T9), p0 x0 x1 x2 x3 x4 x5 x6 x7 x8 x9 ∧ p1 x0 x1 x2 x3 x4 x5 x6 x7 x8 x9 ∧ p2 x0 x1 x2 x3 x4 x5 x6 x7 x8 x9 ∧ p3 x0 x1 x2 x3 x4 x5 x6 x7 x8 x9 ∧ p4 x0 x1 x2 x3 x4 x5 x6 x7 x8 x9 ∧ p5 x0 x1 x2 x3 x4 x5 x6 x7 x8 x9 ∧ p6 x0 x1 x2 x3 x4 x5 x6 x7 x8 x9 ∧ p7 x0 x1 x2 x3 x4 x5 x6 x7 x8 x9 ∧ p8 x0 x1 x2 x3 x4 x5 x6 x7 x8 x9 ∧ z x0 x1 x2 x3 x4 x5 x6 x7 x8 x9) (k : ∀ (x0 : T0) (x1 : T1) (x2 : T2) (x3 : T3) (x4 : T4) (x5 : T5) (x6 : T6) (x7 : T7) (x8 : T8) (x9 : T9), p0 x0 x1 x2 x3 x4 x5 x6 x7 x8 x9 → p1 x0 x1 x2 x3 x4 x5 x6 x7 x8 x9 → p2 x0 x1 x2 x3 x4 x5 x6 x7 x8 x9 → p3 x0 x1 x2 x3 x4 x5 x6 x7 x8 x9 → p4 x0 x1 x2 x3 x4 x5 x6 x7 x8 x9 → p5 x0 x1 x2 x3 x4 x5 x6 x7 x8 x9 → p6 x0 x1 x2 x3 x4 x5 x6 x7 x8 x9 → p7 x0 x1 x2 x3 x4 x5 x6 x7 x8 x9 → p8 x0 x1 x2 x3 x4 x5 x6 x7 x8 x9 → z x0 x1 x2 x3 x4 x5 x6 x7 x8 x9 → G) : G := by
  obtain ⟨x0, x1, x2, x3, x4, x5, x6, x7, x8, x9, h0, h1, h2, h3, h4, h5, h6, h7, h8, h9⟩ := h
  exact k x0 x1 x2 x3 x4 x5 x6 x7 x8 x9 h0 h1 h2 h3 h4 h5 h6 h7 h8 h9
theorem ex_11_3 {T0 T1 T2 T3 T4 T5 T6 T7 T8 T9 T10 : Type} {p0 p1 p2 z : T0 → T1 → T2 → T3 → T4 → T5 → T6 → T7 → T8 → T9 → T10 → Prop} {G : Prop} (h : ∃ (x0 : T0) (x1 : T1) (x2 : T2) (x3 : T3) (x4 : T4) (x5 : T5) (x6 : T6) (x7 : T7) (x8 : T8) (x9 : T9) (x10 : T10), p0 x0 x1 x2 x3 x4 x5 x6 x7 x8 x9 x10 ∧ p1 x0 x1 x2 x3 x4 x5 x6 x7 x8 x9 x10 ∧ p2 x0 x1 x2 x3 x4 x5 x6 x7 x8 x9 x10 ∧ z x0 x1 x2 x3 x4 x5 x6 x7 x8 x9 x10) (k : ∀ (x0 : T0) (x1 : T1) (x2 : T2) (x3 : T3) (x4 : T4) (x5 : T5) (x6 : T6) (x7 : T7) (x8 : T8) (x9 : T9) (x10 : T10), p0 x0 x1 x2 x3 x4 x5 x6 x7 x8 x9 x10 → p1 x0 x1 x2 x3 x4 x5 x6 x7 x8 x9 x10 → p2 x0 x1 x2 x3 x4 x5 x6 x7 x8 x9 x10 → z x0 x1 x2 x3 x4 x5 x6 x7 x8 x9 x10 → G) : G := by
  obtain ⟨x0, x1, x2, x3, x4, x5, x6, x7, x8, x9, x10, h0, h1, h2, h3⟩ := h
  exact k x0 x1 x2 x3 x4 x5 x6 x7 x8 x9 x10 h0 h1 h2 h3
theorem ex_11_8 {T0 T1 T2 T3 T4 T5 T6 T7 T8 T9 T10 : Type} {p0 p1 p2 p3 p4 p5 p6 p7 z : T0 → T1 → T2 → T3 → T4 → T5 → T6 → T7 → T8 → T9 → T10 → Prop} {G : Prop} (h : ∃ (x0 : T0) (x1 : T1) (x2 : T2) (x3 : T3) (x4 : T4) (x5 : T5) (x6 : T6) (x7 : T7) (x8 : T8) (x9 : T9) (x10 : T10), p0 x0 x1 x2 x3 x4 x5 x6 x7 x8 x9 x10 ∧ p1 x0 x1 x2 x3 x4 x5 x6 x7 x8 x9 x10 ∧ p2 x0 x1 x2 x3 x4 x5 x6 x7 x8 x9 x10 ∧ p3 x0 x1 x2 x3 x4 x5 x6 x7 x8 x9 x10 ∧ p4 x0 x1 x2 x3 x4 x5 x6 x7 x8 x9 x10 ∧ p5 x0 x1 x2 x3 x4 x5 x6 x7 x8 x9 x10 ∧ p6 x0 x1 x2 x3 x4 x5 x6 x7 x8 x9 x10 ∧ p7 x0 x1 x2 x3 x4 x5 x6 x7 x8 x9 x10 ∧ z x0 x1 x2 x3 x4 x5 x6 x7 x8 x9 x10) (k : ∀ (x0 : T0) (x1 : T1) (x2 : T2) (x3 : T3) (x4 : T4) (x5 : T5) (x6 : T6) (x7 : T7) (x8 : T8) (x9 : T9) (x10 : T10), p0 x0 x1 x2 x3 x4 x5 x6 x7 x8 x9 x10 → p1 x0 x1 x2 x3 x4 x5 x6 x7 x8 x9 x10 → p2 x0 x1 x2 x3 x4 x5 x6 x7 x8 x9 x10 → p3 x0 x1 x2 x3 x4 x5 x6 x7 x8 x9 x10 → p4 x0 x1 x2 x3 x4 x5 x6 x7 x8 x9 x10 → p5 x0 x1 x2 x3 x4 x5 x6 x7 x8 x9 x10 → p6 x0 x1 x2 x3 x4 x5 x6 x7 x8 x9 x10 → p7 x0 x1 x2 x3 x4 x5 x6 x7 x8 x9 x10 → z x0 x1 x2 x3 x4 x5 x6 x7 x8 x9 x10 → G) : G := by
  obtain ⟨x0, x1, x2, x3, x4, x5, x6, x7, x8, x9, x10, h0, h1, h2, h3, h4, h5, h6, h7, h8⟩ := h
  exact k x0 x1 x2 x3 x4 x5 x6 x7 x8 x9 x10 h0 h1 h2 h3 h4 h5 h6 h7 h8
theorem ex_13_9 {T0 T1 T2 T3 T4 T5 T6 T7 T8 T9 T10 T11 T12 : Type} {p0 p1 p2 p3 p4 p5 p6 p7 p8 z : T0 → T1 → T2 → T3 → T4 → T5 → T6 → T7 → T8 → T9 → T10 → T11 → T12 → Prop} {G : Prop} (h : ∃ (x0 : T0) (x1 : T1) (x2 : T2) (x3 : T3) (x4 : T4) (x5 : T5) (x6 : T6) (x7 : T7) (x8 : T8) (x9 : T9) (x10 : T10) (x11 : T11) (x12 : T12), p0 x0 x1 x2 x3 x4 x5 x6 x7 x8 x9 x10 x11 x12 ∧ p1 x0 x1 x2 x3 x4 x5 x6 x7 x8 x9 x10 x11 x12 ∧ p2 x0 x1 x2 x3 x4 x5 x6 x7 x8 x9 x10 x11 x12 ∧ p3 x0 x1 x2 x3 x4 x5 x6 x7 x8 x9 x10 x11 x12 ∧ p4 x0 x1 x2 x3 x4 x5 x6 x7 x8 x9 x10 x11 x12 ∧ p5 x0 x1 x2 x3 x4 x5 x6 x7 x8 x9 x10 x11 x12 ∧ p6 x0 x1 x2 x3 x4 x5 x6 x7 x8 x9 x10 x11 x12 ∧ p7 x0 x1 x2 x3 x4 x5 x6 x7 x8 x9 x10 x11 x12 ∧ p8 x0 x1 x2 x3 x4 x5 x6 x7 x8 x9 x10 x11 x12 ∧ z x0 x1 x2 x3 x4 x5 x6 x7 x8 x9 x10 x11 x12) (k : ∀ (x0 : T0) (x1 : T1) (x2 : T2) (x3 : T3) (x4 : T4) (x5 : T5) (x6 : T6) (x7 : T7) (x8 : T8) (x9 : T9) (x10 : T10) (x11 : T11) (x12 : T12), p0 x0 x1 x2 x3 x4 x5 x6 x7 x8 x9 x10 x11 x12 → p1 x0 x1 x2 x3 x4 x5 x6 x7 x8 x9 x10 x11 x12 → p2 x0 x1 x2 x3 x4 x5 x6 x7 x8 x9 x10 x11 x12 → p3 x0 x1 x2 x3 x4 x5 x6 x7 x8 x9 x10 x11 x12 → p4 x0 x1 x2 x3 x4 x5 x6 x7 x8 x9 x10 x11 x12 → p5 x0 x1 x2 x3 x4 x5 x6 x7 x8 x9 x10 x11 x12 → p6 x0 x1 x2 x3 x4 x5 x6 x7 x8 x9 x10 x11 x12 → p7 x0 x1 x2 x3 x4 x5 x6 x7 x8 x9 x10 x11 x12 → p8 x0 x1 x2 x3 x4 x5 x6 x7 x8 x9 x10 x11 x12 → z x0 x1 x2 x3 x4 x5 x6 x7 x8 x9 x10 x11 x12 → G) : G := by
  obtain ⟨x0, x1, x2, x3, x4, x5, x6, x7, x8, x9, x10, x11, x12, h0, h1, h2, h3, h4, h5, h6, h7, h8, h9⟩ := h
  exact k x0 x1 x2 x3 x4 x5 x6 x7 x8 x9 x10 x11 x12 h0 h1 h2 h3 h4 h5 h6 h7 h8 h9
theorem ex_15_3 {T0 T1 T2 T3 T4 T5 T6 T7 T8 T9 T10 T11 T12 T13 T14 : Type} {p0 p1 p2 z : T0 → T1 → T2 → T3 → T4 → T5 → T6 → T7 → T8 → T9 → T10 → T11 → T12 → T13 → T14 → Prop} {G : Prop} (h : ∃ (x0 : T0) (x1 : T1) (x2 : T2) (x3 : T3) (x4 : T4) (x5 : T5) (x6 : T6) (x7 : T7) (x8 : T8) (x9 : T9) (x10 : T10) (x11 : T11) (x12 : T12) (x13 : T13) (x14 : T14), p0 x0 x1 x2 x3 x4 x5 x6 x7 x8 x9 x10 x11 x12 x13 x14 ∧ p1 x0 x1 x2 x3 x4 x5 x6 x7 x8 x9 x10 x11 x12 x13 x14 ∧ p2 x0 x1 x2 x3 x4 x5 x6 x7 x8 x9 x10 x11 x12 x13 x14 ∧ z x0 x1 x2 x3 x4 x5 x6 x7 x8 x9 x10 x11 x12 x13 x14) (k : ∀ (x0 : T0) (x1 : T1) (x2 : T2) (x3 : T3) (x4 : T4) (x5 : T5) (x6 : T6) (x7 : T7) (x8 : T8) (x9 : T9) (x10 : T10) (x11 : T11) (x12 : T12) (x13 : T13) (x14 : T14), p0 x0 x1 x2 x3 x4 x5 x6 x7 x8 x9 x10 x11 x12 x13 x14 → p1 x0 x1 x2 x3 x4 x5 x6 x7 x8 x9 x10 x11 x12 x13 x14 → p2 x0 x1 x2 x3 x4 x5 x6 x7 x8 x9 x10 x11 x12 x13 x14 → z x0 x1 x2 x3 x4 x5 x6 x7 x8 x9 x10 x11 x12 x13 x14 → G) : G := by
  obtain ⟨x0, x1, x2, x3, x4, x5, x6, x7, x8, x9, x10, x11, x12, x13, x14, h0, h1, h2, h3⟩ := h
  exact k x0 x1 x2 x3 x4 x5 x6 x7 x8 x9 x10 x11 x12 x13 x14 h0 h1 h2 h3
theorem ex_20_3 {T0 T1 T2 T3 T4 T5 T6 T7 T8 T9 T10 T11 T12 T13 T14 T15 T16 T17 T18 T19 : Type} {p0 p1 p2 z : T0 → T1 → T2 → T3 → T4 → T5 → T6 → T7 → T8 → T9 → T10 → T11 → T12 → T13 → T14 → T15 → T16 → T17 → T18 → T19 → Prop} {G : Prop} (h : ∃ (x0 : T0) (x1 : T1) (x2 : T2) (x3 : T3) (x4 : T4) (x5 : T5) (x6 : T6) (x7 : T7) (x8 : T8) (x9 : T9) (x10 : T10) (x11 : T11) (x12 : T12) (x13 : T13) (x14 : T14) (x15 : T15) (x16 : T16) (x17 : T17) (x18 : T18) (x19 : T19), p0 x0 x1 x2 x3 x4 x5 x6 x7 x8 x9 x10 x11 x12 x13 x14 x15 x16 x17 x18 x19 ∧ p1 x0 x1 x2 x3 x4 x5 x6 x7 x8 x9 x10 x11 x12 x13 x14 x15 x16 x17 x18 x19 ∧ p2 x0 x1 x2 x3 x4 x5 x6 x7 x8 x9 x10 x11 x12 x13 x14 x15 x16 x17 x18 x19 ∧ z x0 x1 x2 x3 x4 x5 x6 x7 x8 x9 x10 x11 x12 x13 x14 x15 x16 x17 x18 x19) (k : ∀ (x0 : T0) (x1 : T1) (x2 : T2) (x3 : T3) (x4 : T4) (x5 : T5) (x6 : T6) (x7 : T7) (x8 : T8) (x9 : T9) (x10 : T10) (x11 : T11) (x12 : T12) (x13 : T13) (x14 : T14) (x15 : T15) (x16 : T16) (x17 : T17) (x18 : T18) (x19 : T19), p0 x0 x1 x2 x3 x4 x5 x6 x7 x8 x9 x10 x11 x12 x13 x14 x15 x16 x17 x18 x19 → p1 x0 x1 x2 x3 x4 x5 x6 x7 x8 x9 x10 x11 x12 x13 x14 x15 x16 x17 x18 x19 → p2 x0 x1 x2 x3 x4 x5 x6 x7 x8 x9 x10 x11 x12 x13 x14 x15 x16 x17 x18 x19 → z x0 x1 x2 x3 x4 x5 x6 x7 x8 x9 x10 x11 x12 x13 x14 x15 x16 x17 x18 x19 → G) : G := by
  obtain ⟨x0, x1, x2, x3, x4, x5, x6, x7, x8, x9, x10, x11, x12, x13, x14, x15, x16, x17, x18, x19, h0, h1, h2, h3⟩ := h
  exact k x0 x1 x2 x3 x4 x5 x6 x7 x8 x9 x10 x11 x12 x13 x14 x15 x16 x17 x18 x19 h0 h1 h2 h3
theorem ex_22_4 {T0 T1 T2 T3 T4 T5 T6 T7 T8 T9 T10 T11 T12 T13 T14 T15 T16 T17 T18 T19 T20 T21 : Type} {p0 p1 p2 p3 z : T0 → T1 → T2 → T3 → T4 → T5 → T6 → T7 → T8 → T9 → T10 → T11 → T12 → T13 → T14 → T15 → T16 → T17 → T18 → T19 → T20 → T21 → Prop} {G : Prop} (h : ∃ (x0 : T0) (x1 : T1) (x2 : T2) (x3 : T3) (x4 : T4) (x5 : T5) (x6 : T6) (x7 : T7) (x8 : T8) (x9 : T9) (x10 : T10) (x11 : T11) (x12 : T12) (x13 : T13) (x14 : T14) (x15 : T15) (x16 : T16) (x17 : T17) (x18 : T18) (x19 : T19) (x20 : T20) (x21 : T21), p0 x0 x1 x2 x3 x4 x5 x6 x7 x8 x9 x10 x11 x12 x13 x14 x15 x16 x17 x18 x19 x20 x21 ∧ p1 x0 x1 x2 x3 x4 x5 x6 x7 x8 x9 x10 x11 x12 x13 x14 x15 x16 x17 x18 x19 x20 x21 ∧ p2 x0 x1 x2 x3 x4 x5 x6 x7 x8 x9 x10 x11 x12 x13 x14 x15 x16 x17 x18 x19 x20 x21 ∧ p3 x0 x1 x2 x3 x4 x5 x6 x7 x8 x9 x10 x11 x12 x13 x14 x15 x16 x17 x18 x19 x20 x21 ∧ z x0 x1 x2 x3 x4 x5 x6 x7 x8 x9 x10 x11 x12 x13 x14 x15 x16 x17 x18 x19 x20 x21) (k : ∀ (x0 : T0) (x1 : T1) (x2 : T2) (x3 : T3) (x4 : T4) (x5 : T5) (x6 : T6) (x7 : T7) (x8 : T8) (x9 : T9) (x10 : T10) (x11 : T11) (x12 : T12) (x13 : T13) (x14 : T14) (x15 : T15) (x16 : T16) (x17 : T17) (x18 : T18) (x19 : T19) (x20 : T20) (x21 : T21), p0 x0 x1 x2 x3 x4 x5 x6 x7 x8 x9 x10 x11 x12 x13 x14 x15 x16 x17 x18 x19 x20 x21 → p1 x0 x1 x2 x3 x4 x5 x6 x7 x8 x9 x10 x11 x12 x13 x14 x15 x16 x17 x18 x19 x20 x21 → p2 x0 x1 x2 x3 x4 x5 x6 x7 x8 x9 x10 x11 x12 x13 x14 x15 x16 x17 x18 x19 x20 x21 → p3 x0 x1 x2 x3 x4 x5 x6 x7 x8 x9 x10 x11 x12 x13 x14 x15 x16 x17 x18 x19 x20 x21 → z x0 x1 x2 x3 x4 x5 x6 x7 x8 x9 x10 x11 x12 x13 x14 x15 x16 x17 x18 x19 x20 x21 → G) : G := by
  obtain ⟨x0, x1, x2, x3, x4, x5, x6, x7, x8, x9, x10, x11, x12, x13, x14, x15, x16, x17, x18, x19, x20, x21, h0, h1, h2, h3, h4⟩ := h
  exact k x0 x1 x2 x3 x4 x5 x6 x7 x8 x9 x10 x11 x12 x13 x14 x15 x16 x17 x18 x19 x20 x21 h0 h1 h2 h3 h4
theorem ex_24_19 {T0 T1 T2 T3 T4 T5 T6 T7 T8 T9 T10 T11 T12 T13 T14 T15 T16 T17 T18 T19 T20 T21 T22 T23 : Type} {p0 p1 p2 p3 p4 p5 p6 p7 p8 p9 p10 p11 p12 p13 p14 p15 p16 p17 p18 z : T0 → T1 → T2 → T3 → T4 → T5 → T6 → T7 → T8 → T9 → T10 → T11 → T12 → T13 → T14 → T15 → T16 → T17 → T18 → T19 → T20 → T21 → T22 → T23 → Prop} {G : Prop} (h : ∃ (x0 : T0) (x1 : T1) (x2 : T2) (x3 : T3) (x4 : T4) (x5 : T5) (x6 : T6) (x7 : T7) (x8 : T8) (x9 : T9) (x10 : T10) (x11 : T11) (x12 : T12) (x13 : T13) (x14 : T14) (x15 : T15) (x16 : T16) (x17 : T17) (x18 : T18) (x19 : T19) (x20 : T20) (x21 : T21) (x22 : T22) (x23 : T23), p0 x0 x1 x2 x3 x4 x5 x6 x7 x8 x9 x10 x11 x12 x13 x14 x15 x16 x17 x18 x19 x20 x21 x22 x23 ∧ p1 x0 x1 x2 x3 x4 x5 x6 x7 x8 x9 x10 x11 x12 x13 x14 x15 x16 x17 x18 x19 x20 x21 x22 x23 ∧ p2 x0 x1 x2 x3 x4 x5 x6 x7 x8 x9 x10 x11 x12 x13 x14 x15 x16 x17 x18 x19 x20 x21 x22 x23 ∧ p3 x0 x1 x2 x3 x4 x5 x6 x7 x8 x9 x10 x11 x12 x13 x14 x15 x16 x17 x18 x19 x20 x21 x22 x23 ∧ p4 x0 x1 x2 x3 x4 x5 x6 x7 x8 x9 x10 x11 x12 x13 x14 x15 x16 x17 x18 x19 x20 x21 x22 x23 ∧ p5 x0 x1 x2 x3 x4 x5 x6 x7 x8 x9 x10 x11 x12 x13 x14 x15 x16 x17 x18 x19 x20 x21 x22 x23 ∧ p6 x0 x1 x2 x3 x4 x5 x6 x7 x8 x9 x10 x11 x12 x13 x14 x15 x16 x17 x18 x19 x20 x21 x22 x23 ∧ p7 x0 x1 x2 x3 x4 x5 x6 x7 x8 x9 x10 x11 x12 x13 x14 x15 x16 x17 x18 x19 x20 x21 x22 x23 ∧ p8 x0 x1 x2 x3 x4 x5 x6 x7 x8 x9 x10 x11 x12 x13 x14 x15 x16 x17 x18 x19 x20 x21 x22 x23 ∧ p9 x0 x1 x2 x3 x4 x5 x6 x7 x8 x9 x10 x11 x12 x13 x14 x15 x16 x17 x18 x19 x20 x21 x22 x23 ∧ p10 x0 x1 x2 x3 x4 x5 x6 x7 x8 x9 x10 x11 x12 x13 x14 x15 x16 x17 x18 x19 x20 x21 x22 x23 ∧ p11 x0 x1 x2 x3 x4 x5 x6 x7 x8 x9 x10 x11 x12 x13 x14 x15 x16 x17 x18 x19 x20 x21 x22 x23 ∧ p12 x0 x1 x2 x3 x4 x5 x6 x7 x8 x9 x10 x11 x12 x13 x14 x15 x16 x17 x18 x19 x20 x21 x22 x23 ∧ p13 x0 x1 x2 x3 x4 x5 x6 x7 x8 x9 x10 x11 x12 x13 x14 x15 x16 x17 x18 x19 x20 x21 x22 x23 ∧ p14 x0 x1 x2 x3 x4 x5 x6 x7 x8 x9 x10 x11 x12 x13 x14 x15 x16 x17 x18 x19 x20 x21 x22 x23 ∧ p15 x0 x1 x2 x3 x4 x5 x6 x7 x8 x9 x10 x11 x12 x13 x14 x15 x16 x17 x18 x19 x20 x21 x22 x23 ∧ p16 x0 x1 x2 x3 x4 x5 x6 x7 x8 x9 x10 x11 x12 x13 x14 x15 x16 x17 x18 x19 x20 x21 x22 x23 ∧ p17 x0 x1 x2 x3 x4 x5 x6 x7 x8 x9 x10 x11 x12 x13 x14 x15 x16 x17 x18 x19 x20 x21 x22 x23 ∧ p18 x0 x1 x2 x3 x4 x5 x6 x7 x8 x9 x10 x11 x12 x13 x14 x15 x16 x17 x18 x19 x20 x21 x22 x23 ∧ z x0 x1 x2 x3 x4 x5 x6 x7 x8 x9 x10 x11 x12 x13 x14 x15 x16 x17 x18 x19 x20 x21 x22 x23) (k : ∀ (x0 : T0) (x1 : T1) (x2 : T2) (x3 : T3) (x4 : T4) (x5 : T5) (x6 : T6) (x7 : T7) (x8 : T8) (x9 : T9) (x10 : T10) (x11 : T11) (x12 : T12) (x13 : T13) (x14 : T14) (x15 : T15) (x16 : T16) (x17 : T17) (x18 : T18) (x19 : T19) (x20 : T20) (x21 : T21) (x22 : T22) (x23 : T23), p0 x0 x1 x2 x3 x4 x5 x6 x7 x8 x9 x10 x11 x12 x13 x14 x15 x16 x17 x18 x19 x20 x21 x22 x23 → p1 x0 x1 x2 x3 x4 x5 x6 x7 x8 x9 x10 x11 x12 x13 x14 x15 x16 x17 x18 x19 x20 x21 x22 x23 → p2 x0 x1 x2 x3 x4 x5 x6 x7 x8 x9 x10 x11 x12 x13 x14 x15 x16 x17 x18 x19 x20 x21 x22 x23 → p3 x0 x1 x2 x3 x4 x5 x6 x7 x8 x9 x10 x11 x12 x13 x14 x15 x16 x17 x18 x19 x20 x21 x22 x23 → p4 x0 x1 x2 x3 x4 x5 x6 x7 x8 x9 x10 x11 x12 x13 x14 x15 x16 x17 x18 x19 x20 x21 x22 x23 → p5 x0 x1 x2 x3 x4 x5 x6 x7 x8 x9 x10 x11 x12 x13 x14 x15 x16 x17 x18 x19 x20 x21 x22 x23 → p6 x0 x1 x2 x3 x4 x5 x6 x7 x8 x9 x10 x11 x12 x13 x14 x15 x16 x17 x18 x19 x20 x21 x22 x23 → p7 x0 x1 x2 x3 x4 x5 x6 x7 x8 x9 x10 x11 x12 x13 x14 x15 x16 x17 x18 x19 x20 x21 x22 x23 → p8 x0 x1 x2 x3 x4 x5 x6 x7 x8 x9 x10 x11 x12 x13 x14 x15 x16 x17 x18 x19 x20 x21 x22 x23 → p9 x0 x1 x2 x3 x4 x5 x6 x7 x8 x9 x10 x11 x12 x13 x14 x15 x16 x17 x18 x19 x20 x21 x22 x23 → p10 x0 x1 x2 x3 x4 x5 x6 x7 x8 x9 x10 x11 x12 x13 x14 x15 x16 x17 x18 x19 x20 x21 x22 x23 → p11 x0 x1 x2 x3 x4 x5 x6 x7 x8 x9 x10 x11 x12 x13 x14 x15 x16 x17 x18 x19 x20 x21 x22 x23 → p12 x0 x1 x2 x3 x4 x5 x6 x7 x8 x9 x10 x11 x12 x13 x14 x15 x16 x17 x18 x19 x20 x21 x22 x23 → p13 x0 x1 x2 x3 x4 x5 x6 x7 x8 x9 x10 x11 x12 x13 x14 x15 x16 x17 x18 x19 x20 x21 x22 x23 → p14 x0 x1 x2 x3 x4 x5 x6 x7 x8 x9 x10 x11 x12 x13 x14 x15 x16 x17 x18 x19 x20 x21 x22 x23 → p15 x0 x1 x2 x3 x4 x5 x6 x7 x8 x9 x10 x11 x12 x13 x14 x15 x16 x17 x18 x19 x20 x21 x22 x23 → p16 x0 x1 x2 x3 x4 x5 x6 x7 x8 x9 x10 x11 x12 x13 x14 x15 x16 x17 x18 x19 x20 x21 x22 x23 → p17 x0 x1 x2 x3 x4 x5 x6 x7 x8 x9 x10 x11 x12 x13 x14 x15 x16 x17 x18 x19 x20 x21 x22 x23 → p18 x0 x1 x2 x3 x4 x5 x6 x7 x8 x9 x10 x11 x12 x13 x14 x15 x16 x17 x18 x19 x20 x21 x22 x23 → z x0 x1 x2 x3 x4 x5 x6 x7 x8 x9 x10 x11 x12 x13 x14 x15 x16 x17 x18 x19 x20 x21 x22 x23 → G) : G := by
  obtain ⟨x0, x1, x2, x3, x4, x5, x6, x7, x8, x9, x10, x11, x12, x13, x14, x15, x16, x17, x18, x19, x20, x21, x22, x23, h0, h1, h2, h3, h4, h5, h6, h7, h8, h9, h10, h11, h12, h13, h14, h15, h16, h17, h18, h19⟩ := h
  exact k x0 x1 x2 x3 x4 x5 x6 x7 x8 x9 x10 x11 x12 x13 x14 x15 x16 x17 x18 x19 x20 x21 x22 x23 h0 h1 h2 h3 h4 h5 h6 h7 h8 h9 h10 h11 h12 h13 h14 h15 h16 h17 h18 h19
theorem ex_29_8 {T0 T1 T2 T3 T4 T5 T6 T7 T8 T9 T10 T11 T12 T13 T14 T15 T16 T17 T18 T19 T20 T21 T22 T23 T24 T25 T26 T27 T28 : Type} {p0 p1 p2 p3 p4 p5 p6 p7 z : T0 → T1 → T2 → T3 → T4 → T5 → T6 → T7 → T8 → T9 → T10 → T11 → T12 → T13 → T14 → T15 → T16 → T17 → T18 → T19 → T20 → T21 → T22 → T23 → T24 → T25 → T26 → T27 → T28 → Prop} {G : Prop} (h : ∃ (x0 : T0) (x1 : T1) (x2 : T2) (x3 : T3) (x4 : T4) (x5 : T5) (x6 : T6) (x7 : T7) (x8 : T8) (x9 : T9) (x10 : T10) (x11 : T11) (x12 : T12) (x13 : T13) (x14 : T14) (x15 : T15) (x16 : T16) (x17 : T17) (x18 : T18) (x19 : T19) (x20 : T20) (x21 : T21) (x22 : T22) (x23 : T23) (x24 : T24) (x25 : T25) (x26 : T26) (x27 : T27) (x28 : T28), p0 x0 x1 x2 x3 x4 x5 x6 x7 x8 x9 x10 x11 x12 x13 x14 x15 x16 x17 x18 x19 x20 x21 x22 x23 x24 x25 x26 x27 x28 ∧ p1 x0 x1 x2 x3 x4 x5 x6 x7 x8 x9 x10 x11 x12 x13 x14 x15 x16 x17 x18 x19 x20 x21 x22 x23 x24 x25 x26 x27 x28 ∧ p2 x0 x1 x2 x3 x4 x5 x6 x7 x8 x9 x10 x11 x12 x13 x14 x15 x16 x17 x18 x19 x20 x21 x22 x23 x24 x25 x26 x27 x28 ∧ p3 x0 x1 x2 x3 x4 x5 x6 x7 x8 x9 x10 x11 x12 x13 x14 x15 x16 x17 x18 x19 x20 x21 x22 x23 x24 x25 x26 x27 x28 ∧ p4 x0 x1 x2 x3 x4 x5 x6 x7 x8 x9 x10 x11 x12 x13 x14 x15 x16 x17 x18 x19 x20 x21 x22 x23 x24 x25 x26 x27 x28 ∧ p5 x0 x1 x2 x3 x4 x5 x6 x7 x8 x9 x10 x11 x12 x13 x14 x15 x16 x17 x18 x19 x20 x21 x22 x23 x24 x25 x26 x27 x28 ∧ p6 x0 x1 x2 x3 x4 x5 x6 x7 x8 x9 x10 x11 x12 x13 x14 x15 x16 x17 x18 x19 x20 x21 x22 x23 x24 x25 x26 x27 x28 ∧ p7 x0 x1 x2 x3 x4 x5 x6 x7 x8 x9 x10 x11 x12 x13 x14 x15 x16 x17 x18 x19 x20 x21 x22 x23 x24 x25 x26 x27 x28 ∧ z x0 x1 x2 x3 x4 x5 x6 x7 x8 x9 x10 x11 x12 x13 x14 x15 x16 x17 x18 x19 x20 x21 x22 x23 x24 x25 x26 x27 x28) (k : ∀ (x0 : T0) (x1 : T1) (x2 : T2) (x3 : T3) (x4 : T4) (x5 : T5) (x6 : T6) (x7 : T7) (x8 : T8) (x9 : T9) (x10 : T10) (x11 : T11) (x12 : T12) (x13 : T13) (x14 : T14) (x15 : T15) (x16 : T16) (x17 : T17) (x18 : T18) (x19 : T19) (x20 : T20) (x21 : T21) (x22 : T22) (x23 : T23) (x24 : T24) (x25 : T25) (x26 : T26) (x27 : T27) (x28 : T28), p0 x0 x1 x2 x3 x4 x5 x6 x7 x8 x9 x10 x11 x12 x13 x14 x15 x16 x17 x18 x19 x20 x21 x22 x23 x24 x25 x26 x27 x28 → p1 x0 x1 x2 x3 x4 x5 x6 x7 x8 x9 x10 x11 x12 x13 x14 x15 x16 x17 x18 x19 x20 x21 x22 x23 x24 x25 x26 x27 x28 → p2 x0 x1 x2 x3 x4 x5 x6 x7 x8 x9 x10 x11 x12 x13 x14 x15 x16 x17 x18 x19 x20 x21 x22 x23 x24 x25 x26 x27 x28 → p3 x0 x1 x2 x3 x4 x5 x6 x7 x8 x9 x10 x11 x12 x13 x14 x15 x16 x17 x18 x19 x20 x21 x22 x23 x24 x25 x26 x27 x28 → p4 x0 x1 x2 x3 x4 x5 x6 x7 x8 x9 x10 x11 x12 x13 x14 x15 x16 x17 x18 x19 x20 x21 x22 x23 x24 x25 x26 x27 x28 → p5 x0 x1 x2 x3 x4 x5 x6 x7 x8 x9 x10 x11 x12 x13 x14 x15 x16 x17 x18 x19 x20 x21 x22 x23 x24 x25 x26 x27 x28 → p6 x0 x1 x2 x3 x4 x5 x6 x7 x8 x9 x10 x11 x12 x13 x14 x15 x16 x17 x18 x19 x20 x21 x22 x23 x24 x25 x26 x27 x28 → p7 x0 x1 x2 x3 x4 x5 x6 x7 x8 x9 x10 x11 x12 x13 x14 x15 x16 x17 x18 x19 x20 x21 x22 x23 x24 x25 x26 x27 x28 → z x0 x1 x2 x3 x4 x5 x6 x7 x8 x9 x10 x11 x12 x13 x14 x15 x16 x17 x18 x19 x20 x21 x22 x23 x24 x25 x26 x27 x28 → G) : G := by
  obtain ⟨x0, x1, x2, x3, x4, x5, x6, x7, x8, x9, x10, x11, x12, x13, x14, x15, x16, x17, x18, x19, x20, x21, x22, x23, x24, x25, x26, x27, x28, h0, h1, h2, h3, h4, h5, h6, h7, h8⟩ := h
  exact k x0 x1 x2 x3 x4 x5 x6 x7 x8 x9 x10 x11 x12 x13 x14 x15 x16 x17 x18 x19 x20 x21 x22 x23 x24 x25 x26 x27 x28 h0 h1 h2 h3 h4 h5 h6 h7 h8
theorem ex_31_10 {T0 T1 T2 T3 T4 T5 T6 T7 T8 T9 T10 T11 T12 T13 T14 T15 T16 T17 T18 T19 T20 T21 T22 T23 T24 T25 T26 T27 T28 T29 T30 : Type} {p0 p1 p2 p3 p4 p5 p6 p7 p8 p9 z : T0 → T1 → T2 → T3 → T4 → T5 → T6 → T7 → T8 → T9 → T10 → T11 → T12 → T13 → T14 → T15 → T16 → T17 → T18 → T19 → T20 → T21 → T22 → T23 → T24 → T25 → T26 → T27 → T28 → T29 → T30 → Prop} {G : Prop} (h : ∃ (x0 : T0) (x1 : T1) (x2 : T2) (x3 : T3) (x4 : T4) (x5 : T5) (x6 : T6) (x7 : T7) (x8 : T8) (x9 : T9) (x10 : T10) (x11 : T11) (x12 : T12) (x13 : T13) (x14 : T14) (x15 : T15) (x16 : T16) (x17 : T17) (x18 : T18) (x19 : T19) (x20 : T20) (x21 : T21) (x22 : T22) (x23 : T23) (x24 : T24) (x25 : T25) (x26 : T26) (x27 : T27) (x28 : T28) (x29 : T29) (x30 : T30), p0 x0 x1 x2 x3 x4 x5 x6 x7 x8 x9 x10 x11 x12 x13 x14 x15 x16 x17 x18 x19 x20 x21 x22 x23 x24 x25 x26 x27 x28 x29 x30 ∧ p1 x0 x1 x2 x3 x4 x5 x6 x7 x8 x9 x10 x11 x12 x13 x14 x15 x16 x17 x18 x19 x20 x21 x22 x23 x24 x25 x26 x27 x28 x29 x30 ∧ p2 x0 x1 x2 x3 x4 x5 x6 x7 x8 x9 x10 x11 x12 x13 x14 x15 x16 x17 x18 x19 x20 x21 x22 x23 x24 x25 x26 x27 x28 x29 x30 ∧ p3 x0 x1 x2 x3 x4 x5 x6 x7 x8 x9 x10 x11 x12 x13 x14 x15 x16 x17 x18 x19 x20 x21 x22 x23 x24 x25 x26 x27 x28 x29 x30 ∧ p4 x0 x1 x2 x3 x4 x5 x6 x7 x8 x9 x10 x11 x12 x13 x14 x15 x16 x17 x18 x19 x20 x21 x22 x23 x24 x25 x26 x27 x28 x29 x30 ∧ p5 x0 x1 x2 x3 x4 x5 x6 x7 x8 x9 x10 x11 x12 x13 x14 x15 x16 x17 x18 x19 x20 x21 x22 x23 x24 x25 x26 x27 x28 x29 x30 ∧ p6 x0 x1 x2 x3 x4 x5 x6 x7 x8 x9 x10 x11 x12 x13 x14 x15 x16 x17 x18 x19 x20 x21 x22 x23 x24 x25 x26 x27 x28 x29 x30 ∧ p7 x0 x1 x2 x3 x4 x5 x6 x7 x8 x9 x10 x11 x12 x13 x14 x15 x16 x17 x18 x19 x20 x21 x22 x23 x24 x25 x26 x27 x28 x29 x30 ∧ p8 x0 x1 x2 x3 x4 x5 x6 x7 x8 x9 x10 x11 x12 x13 x14 x15 x16 x17 x18 x19 x20 x21 x22 x23 x24 x25 x26 x27 x28 x29 x30 ∧ p9 x0 x1 x2 x3 x4 x5 x6 x7 x8 x9 x10 x11 x12 x13 x14 x15 x16 x17 x18 x19 x20 x21 x22 x23 x24 x25 x26 x27 x28 x29 x30 ∧ z x0 x1 x2 x3 x4 x5 x6 x7 x8 x9 x10 x11 x12 x13 x14 x15 x16 x17 x18 x19 x20 x21 x22 x23 x24 x25 x26 x27 x28 x29 x30) (k : ∀ (x0 : T0) (x1 : T1) (x2 : T2) (x3 : T3) (x4 : T4) (x5 : T5) (x6 : T6) (x7 : T7) (x8 : T8) (x9 : T9) (x10 : T10) (x11 : T11) (x12 : T12) (x13 : T13) (x14 : T14) (x15 : T15) (x16 : T16) (x17 : T17) (x18 : T18) (x19 : T19) (x20 : T20) (x21 : T21) (x22 : T22) (x23 : T23) (x24 : T24) (x25 : T25) (x26 : T26) (x27 : T27) (x28 : T28) (x29 : T29) (x30 : T30), p0 x0 x1 x2 x3 x4 x5 x6 x7 x8 x9 x10 x11 x12 x13 x14 x15 x16 x17 x18 x19 x20 x21 x22 x23 x24 x25 x26 x27 x28 x29 x30 → p1 x0 x1 x2 x3 x4 x5 x6 x7 x8 x9 x10 x11 x12 x13 x14 x15 x16 x17 x18 x19 x20 x21 x22 x23 x24 x25 x26 x27 x28 x29 x30 → p2 x0 x1 x2 x3 x4 x5 x6 x7 x8 x9 x10 x11 x12 x13 x14 x15 x16 x17 x18 x19 x20 x21 x22 x23 x24 x25 x26 x27 x28 x29 x30 → p3 x0 x1 x2 x3 x4 x5 x6 x7 x8 x9 x10 x11 x12 x13 x14 x15 x16 x17 x18 x19 x20 x21 x22 x23 x24 x25 x26 x27 x28 x29 x30 → p4 x0 x1 x2 x3 x4 x5 x6 x7 x8 x9 x10 x11 x12 x13 x14 x15 x16 x17 x18 x19 x20 x21 x22 x23 x24 x25 x26 x27 x28 x29 x30 → p5 x0 x1 x2 x3 x4 x5 x6 x7 x8 x9 x10 x11 x12 x13 x14 x15 x16 x17 x18 x19 x20 x21 x22 x23 x24 x25 x26 x27 x28 x29 x30 → p6 x0 x1 x2 x3 x4 x5 x6 x7 x8 x9 x10 x11 x12 x13 x14 x15 x16 x17 x18 x19 x20 x21 x22 x23 x24 x25 x26 x27 x28 x29 x30 → p7 x0 x1 x2 x3 x4 x5 x6 x7 x8 x9 x10 x11 x12 x13 x14 x15 x16 x17 x18 x19 x20 x21 x22 x23 x24 x25 x26 x27 x28 x29 x30 → p8 x0 x1 x2 x3 x4 x5 x6 x7 x8 x9 x10 x11 x12 x13 x14 x15 x16 x17 x18 x19 x20 x21 x22 x23 x24 x25 x26 x27 x28 x29 x30 → p9 x0 x1 x2 x3 x4 x5 x6 x7 x8 x9 x10 x11 x12 x13 x14 x15 x16 x17 x18 x19 x20 x21 x22 x23 x24 x25 x26 x27 x28 x29 x30 → z x0 x1 x2 x3 x4 x5 x6 x7 x8 x9 x10 x11 x12 x13 x14 x15 x16 x17 x18 x19 x20 x21 x22 x23 x24 x25 x26 x27 x28 x29 x30 → G) : G := by
  obtain ⟨x0, x1, x2, x3, x4, x5, x6, x7, x8, x9, x10, x11, x12, x13, x14, x15, x16, x17, x18, x19, x20, x21, x22, x23, x24, x25, x26, x27, x28, x29, x30, h0, h1, h2, h3, h4, h5, h6, h7, h8, h9, h10⟩ := h
  exact k x0 x1 x2 x3 x4 x5 x6 x7 x8 x9 x10 x11 x12 x13 x14 x15 x16 x17 x18 x19 x20 x21 x22 x23 x24 x25 x26 x27 x28 x29 x30 h0 h1 h2 h3 h4 h5 h6 h7 h8 h9 h10
theorem ex_38_13 {T0 T1 T2 T3 T4 T5 T6 T7 T8 T9 T10 T11 T12 T13 T14 T15 T16 T17 T18 T19 T20 T21 T22 T23 T24 T25 T26 T27 T28 T29 T30 T31 T32 T33 T34 T35 T36 T37 : Type} {p0 p1 p2 p3 p4 p5 p6 p7 p8 p9 p10 p11 p12 z : T0 → T1 → T2 → T3 → T4 → T5 → T6 → T7 → T8 → T9 → T10 → T11 → T12 → T13 → T14 → T15 → T16 → T17 → T18 → T19 → T20 → T21 → T22 → T23 → T24 → T25 → T26 → T27 → T28 → T29 → T30 → T31 → T32 → T33 → T34 → T35 → T36 → T37 → Prop} {G : Prop} (h : ∃ (x0 : T0) (x1 : T1) (x2 : T2) (x3 : T3) (x4 : T4) (x5 : T5) (x6 : T6) (x7 : T7) (x8 : T8) (x9 : T9) (x10 : T10) (x11 : T11) (x12 : T12) (x13 : T13) (x14 : T14) (x15 : T15) (x16 : T16) (x17 : T17) (x18 : T18) (x19 : T19) (x20 : T20) (x21 : T21) (x22 : T22) (x23 : T23) (x24 : T24) (x25 : T25) (x26 : T26) (x27 : T27) (x28 : T28) (x29 : T29) (x30 : T30) (x31 : T31) (x32 : T32) (x33 : T33) (x34 : T34) (x35 : T35) (x36 : T36) (x37 : T37), p0 x0 x1 x2 x3 x4 x5 x6 x7 x8 x9 x10 x11 x12 x13 x14 x15 x16 x17 x18 x19 x20 x21 x22 x23 x24 x25 x26 x27 x28 x29 x30 x31 x32 x33 x34 x35 x36 x37 ∧ p1 x0 x1 x2 x3 x4 x5 x6 x7 x8 x9 x10 x11 x12 x13 x14 x15 x16 x17 x18 x19 x20 x21 x22 x23 x24 x25 x26 x27 x28 x29 x30 x31 x32 x33 x34 x35 x36 x37 ∧ p2 x0 x1 x2 x3 x4 x5 x6 x7 x8 x9 x10 x11 x12 x13 x14 x15 x16 x17 x18 x19 x20 x21 x22 x23 x24 x25 x26 x27 x28 x29 x30 x31 x32 x33 x34 x35 x36 x37 ∧ p3 x0 x1 x2 x3 x4 x5 x6 x7 x8 x9 x10 x11 x12 x13 x14 x15 x16 x17 x18 x19 x20 x21 x22 x23 x24 x25 x26 x27 x28 x29 x30 x31 x32 x33 x34 x35 x36 x37 ∧ p4 x0 x1 x2 x3 x4 x5 x6 x7 x8 x9 x10 x11 x12 x13 x14 x15 x16 x17 x18 x19 x20 x21 x22 x23 x24 x25 x26 x27 x28 x29 x30 x31 x32 x33 x34 x35 x36 x37 ∧ p5 x0 x1 x2 x3 x4 x5 x6 x7 x8 x9 x10 x11 x12 x13 x14 x15 x16 x17 x18 x19 x20 x21 x22 x23 x24 x25 x26 x27 x28 x29 x30 x31 x32 x33 x34 x35 x36 x37 ∧ p6 x0 x1 x2 x3 x4 x5 x6 x7 x8 x9 x10 x11 x12 x13 x14 x15 x16 x17 x18 x19 x20 x21 x22 x23 x24 x25 x26 x27 x28 x29 x30 x31 x32 x33 x34 x35 x36 x37 ∧ p7 x0 x1 x2 x3 x4 x5 x6 x7 x8 x9 x10 x11 x12 x13 x14 x15 x16 x17 x18 x19 x20 x21 x22 x23 x24 x25 x26 x27 x28 x29 x30 x31 x32 x33 x34 x35 x36 x37 ∧ p8 x0 x1 x2 x3 x4 x5 x6 x7 x8 x9 x10 x11 x12 x13 x14 x15 x16 x17 x18 x19 x20 x21 x22 x23 x24 x25 x26 x27 x28 x29 x30 x31 x32 x33 x34 x35 x36 x37 ∧ p9 x0 x1 x2 x3 x4 x5 x6 x7 x8 x9 x10 x11 x12 x13 x14 x15 x16 x17 x18 x19 x20 x21 x22 x23 x24 x25 x26 x27 x28 x29 x30 x31 x32 x33 x34 x35 x36 x37 ∧ p10 x0 x1 x2 x3 x4 x5 x6 x7 x8 x9 x10 x11 x12 x13 x14 x15 x16 x17 x18 x19 x20 x21 x22 x23 x24 x25 x26 x27 x28 x29 x30 x31 x32 x33 x34 x35 x36 x37 ∧ p11 x0 x1 x2 x3 x4 x5 x6 x7 x8 x9 x10 x11 x12 x13 x14 x15 x16 x17 x18 x19 x20 x21 x22 x23 x24 x25 x26 x27 x28 x29 x30 x31 x32 x33 x34 x35 x36 x37 ∧ p12 x0 x1 x2 x3 x4 x5 x6 x7 x8 x9 x10 x11 x12 x13 x14 x15 x16 x17 x18 x19 x20 x21 x22 x23 x24 x25 x26 x27 x28 x29 x30 x31 x32 x33 x34 x35 x36 x37 ∧ z x0 x1 x2 x3 x4 x5 x6 x7 x8 x9 x10 x11 x12 x13 x14 x15 x16 x17 x18 x19 x20 x21 x22 x23 x24 x25 x26 x27 x28 x29 x30 x31 x32 x33 x34 x35 x36 x37) (k : ∀ (x0 : T0) (x1 : T1) (x2 : T2) (x3 : T3) (x4 : T4) (x5 : T5) (x6 : T6) (x7 : T7) (x8 : T8) (x9 : T9) (x10 : T10) (x11 : T11) (x12 : T12) (x13 : T13) (x14 : T14) (x15 : T15) (x16 : T16) (x17 : T17) (x18 : T18) (x19 : T19) (x20 : T20) (x21 : T21) (x22 : T22) (x23 : T23) (x24 : T24) (x25 : T25) (x26 : T26) (x27 : T27) (x28 : T28) (x29 : T29) (x30 : T30) (x31 : T31) (x32 : T32) (x33 : T33) (x34 : T34) (x35 : T35) (x36 : T36) (x37 : T37), p0 x0 x1 x2 x3 x4 x5 x6 x7 x8 x9 x10 x11 x12 x13 x14 x15 x16 x17 x18 x19 x20 x21 x22 x23 x24 x25 x26 x27 x28 x29 x30 x31 x32 x33 x34 x35 x36 x37 → p1 x0 x1 x2 x3 x4 x5 x6 x7 x8 x9 x10 x11 x12 x13 x14 x15 x16 x17 x18 x19 x20 x21 x22 x23 x24 x25 x26 x27 x28 x29 x30 x31 x32 x33 x34 x35 x36 x37 → p2 x0 x1 x2 x3 x4 x5 x6 x7 x8 x9 x10 x11 x12 x13 x14 x15 x16 x17 x18 x19 x20 x21 x22 x23 x24 x25 x26 x27 x28 x29 x30 x31 x32 x33 x34 x35 x36 x37 → p3 x0 x1 x2 x3 x4 x5 x6 x7 x8 x9 x10 x11 x12 x13 x14 x15 x16 x17 x18 x19 x20 x21 x22 x23 x24 x25 x26 x27 x28 x29 x30 x31 x32 x33 x34 x35 x36 x37 → p4 x0 x1 x2 x3 x4 x5 x6 x7 x8 x9 x10 x11 x12 x13 x14 x15 x16 x17 x18 x19 x20 x21 x22 x23 x24 x25 x26 x27 x28 x29 x30 x31 x32 x33 x34 x35 x36 x37 → p5 x0 x1 x2 x3 x4 x5 x6 x7 x8 x9 x10 x11 x12 x13 x14 x15 x16 x17 x18 x19 x20 x21 x22 x23 x24 x25 x26 x27 x28 x29 x30 x31 x32 x33 x34 x35 x36 x37 → p6 x0 x1 x2 x3 x4 x5 x6 x7 x8 x9 x10 x11 x12 x13 x14 x15 x16 x17 x18 x19 x20 x21 x22 x23 x24 x25 x26 x27 x28 x29 x30 x31 x32 x33 x34 x35 x36 x37 → p7 x0 x1 x2 x3 x4 x5 x6 x7 x8 x9 x10 x11 x12 x13 x14 x15 x16 x17 x18 x19 x20 x21 x22 x23 x24 x25 x26 x27 x28 x29 x30 x31 x32 x33 x34 x35 x36 x37 → p8 x0 x1 x2 x3 x4 x5 x6 x7 x8 x9 x10 x11 x12 x13 x14 x15 x16 x17 x18 x19 x20 x21 x22 x23 x24 x25 x26 x27 x28 x29 x30 x31 x32 x33 x34 x35 x36 x37 → p9 x0 x1 x2 x3 x4 x5 x6 x7 x8 x9 x10 x11 x12 x13 x14 x15 x16 x17 x18 x19 x20 x21 x22 x23 x24 x25 x26 x27 x28 x29 x30 x31 x32 x33 x34 x35 x36 x37 → p10 x0 x1 x2 x3 x4 x5 x6 x7 x8 x9 x10 x11 x12 x13 x14 x15 x16 x17 x18 x19 x20 x21 x22 x23 x24 x25 x26 x27 x28 x29 x30 x31 x32 x33 x34 x35 x36 x37 → p11 x0 x1 x2 x3 x4 x5 x6 x7 x8 x9 x10 x11 x12 x13 x14 x15 x16 x17 x18 x19 x20 x21 x22 x23 x24 x25 x26 x27 x28 x29 x30 x31 x32 x33 x34 x35 x36 x37 → p12 x0 x1 x2 x3 x4 x5 x6 x7 x8 x9 x10 x11 x12 x13 x14 x15 x16 x17 x18 x19 x20 x21 x22 x23 x24 x25 x26 x27 x28 x29 x30 x31 x32 x33 x34 x35 x36 x37 → z x0 x1 x2 x3 x4 x5 x6 x7 x8 x9 x10 x11 x12 x13 x14 x15 x16 x17 x18 x19 x20 x21 x22 x23 x24 x25 x26 x27 x28 x29 x30 x31 x32 x33 x34 x35 x36 x37 → G) : G := by
  obtain ⟨x0, x1, x2, x3, x4, x5, x6, x7, x8, x9, x10, x11, x12, x13, x14, x15, x16, x17, x18, x19, x20, x21, x22, x23, x24, x25, x26, x27, x28, x29, x30, x31, x32, x33, x34, x35, x36, x37, h0, h1, h2, h3, h4, h5, h6, h7, h8, h9, h10, h11, h12, h13⟩ := h
  exact k x0 x1 x2 x3 x4 x5 x6 x7 x8 x9 x10 x11 x12 x13 x14 x15 x16 x17 x18 x19 x20 x21 x22 x23 x24 x25 x26 x27 x28 x29 x30 x31 x32 x33 x34 x35 x36 x37 h0 h1 h2 h3 h4 h5 h6 h7 h8 h9 h10 h11 h12 h13
