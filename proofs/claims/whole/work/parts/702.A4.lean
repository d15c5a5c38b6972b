theorem i64_nn {z : Int64} (h : 0 ≤ z.toInt) : z.toInt = (z.toBitVec.toNat : Int) := by
  have : z.toBitVec.toInt = z.toInt := rfl
  rw [← this] at h ⊢
  rw [BitVec.toInt_eq_toNat_cond] at h ⊢
  have := z.toBitVec.isLt
  split at h <;> split <;> omega
theorem i64_of {z : Int64} {n : Nat} (h : z.toBitVec.toNat = n) (hn : n < 2 ^ 63) : z.toInt = n := by
  show z.toBitVec.toInt = n
  rw [BitVec.toInt_eq_toNat_cond, h]
  split <;> omega
theorem b255 (x : Int32) : (x.toInt64 &&& 255).toBitVec.toNat = (x.toInt % 256).toNat := by
  rw [Int64.toBitVec_and, BitVec.toNat_and]
  have h1 : (255 : Int64).toBitVec.toNat = 2 ^ 8 - 1 := by decide
  rw [h1, Nat.and_two_pow_sub_one_eq_mod]
  have h2 : x.toInt64.toBitVec = BitVec.ofInt 64 x.toInt := by
    apply BitVec.eq_of_toInt_eq
    show x.toInt64.toInt = _
    rw [Int32.toInt_toInt64, BitVec.toInt_ofInt]
    have a := Int32.le_toInt x; have b := Int32.toInt_lt x
    rw [Int.bmod_eq_of_le] <;> omega
  rw [h2, BitVec.toNat_ofInt]
  have h64 : ((2 ^ 64 : Nat) : Int) ≠ 0 := by decide
  omega
set_option maxHeartbeats 8000000 in
theorem ldstep (h : Int64) (x : Int32) (b : Nat) (hb : b ≤ 40) (h0 : 0 ≤ h.toInt) (h1 : h.toInt < 2 ^ b) : (h ||| ((x.toInt64 &&& 255) <<< ((nI b).toInt64 &&& 63))).toInt = h.toInt + (x.toInt % 256) * 2 ^ b := by
  have hs : (((nI b).toInt64 &&& 63 : Int64).toBitVec.smod 64).toNat = b := by
    have : b = 0 ∨ b = 1 ∨ b = 2 ∨ b = 3 ∨ b = 4 ∨ b = 5 ∨ b = 6 ∨ b = 7 ∨ b = 8 ∨ b = 9 ∨ b = 10 ∨ b = 11 ∨ b = 12 ∨ b = 13 ∨ b = 14 ∨ b = 15 ∨ b = 16 ∨ b = 17 ∨ b = 18 ∨ b = 19 ∨ b = 20 ∨ b = 21 ∨ b = 22 ∨ b = 23 ∨ b = 24 ∨ b = 25 ∨ b = 26 ∨ b = 27 ∨ b = 28 ∨ b = 29 ∨ b = 30 ∨ b = 31 ∨ b = 32 ∨ b = 33 ∨ b = 34 ∨ b = 35 ∨ b = 36 ∨ b = 37 ∨ b = 38 ∨ b = 39 ∨ b = 40 := by omega
    rcases this with rfl | rfl | rfl | rfl | rfl | rfl | rfl | rfl | rfl | rfl | rfl | rfl | rfl | rfl | rfl | rfl | rfl | rfl | rfl | rfl | rfl | rfl | rfl | rfl | rfl | rfl | rfl | rfl | rfl | rfl | rfl | rfl | rfl | rfl | rfl | rfl | rfl | rfl | rfl | rfl | rfl <;> decide
  have hn := i64_nn h0
  have hp : ((2 ^ b : Nat) : Int) = 2 ^ b := by norm_cast
  have hlt : h.toBitVec.toNat < 2 ^ b := by rw [← hp] at h1; omega
  have hx := b255 x
  have hx0 : 0 ≤ x.toInt % 256 := Int.emod_nonneg _ (by decide)
  have hx1 : x.toInt % 256 < 256 := Int.emod_lt_of_pos _ (by decide)
  have hpow : (2 : Nat) ^ b ≤ 2 ^ 40 := Nat.pow_le_pow_right (by decide) hb
  have hsm : (x.toInt % 256).toNat * 2 ^ b < 2 ^ 62 := by
    calc (x.toInt % 256).toNat * 2 ^ b ≤ 256 * 2 ^ 40 := Nat.mul_le_mul (by omega) hpow
      _ < 2 ^ 62 := by decide
  have key : (h ||| ((x.toInt64 &&& 255) <<< ((nI b).toInt64 &&& 63))).toBitVec.toNat = h.toBitVec.toNat + (x.toInt % 256).toNat * 2 ^ b := by
    rw [Int64.toBitVec_or, BitVec.toNat_or, Int64.toBitVec_shiftLeft, BitVec.shiftLeft_eq', hs, BitVec.toNat_shiftLeft, hx, Nat.shiftLeft_eq]
    rw [Nat.mod_eq_of_lt (by omega), ← Nat.shiftLeft_eq, Nat.or_comm, ← Nat.shiftLeft_add_eq_or_of_lt hlt, Nat.shiftLeft_eq, Nat.add_comm]
  rw [i64_of key (by omega), hn, Int.natCast_add, Int.natCast_mul, hp, Int.toNat_of_nonneg hx0]
theorem ls1 {S S' b R R' N c : Int} (h : N = S' + (c * 256) * R') (hs : S' = S + b * c) (hr : R = b + 256 * R') : N = S + c * R := by rw [h, hs, hr]; grind
theorem ls2 {S b c e d : Int} (h : c = e * d) (he : e ≠ 0) : (S + b * c) / e = S / e + b * d := by
  rw [h, show S + b * (e * d) = S + e * (b * d) by grind, Int.add_mul_ediv_left _ _ he]
theorem ls3 {S N R c e w d : Int} (hn : N = S + c * R) (hc : c = e * (w * d)) (he : e ≠ 0) : S / e % w = N / e % w := by
  rw [hn, hc, show S + e * (w * d) * R = S + e * (w * (d * R)) by grind, Int.add_mul_ediv_left _ _ he, Int.add_mul_emod_self_left]
theorem rl1 {u H b : Int} (k : Nat) (e : u = H + b * 2 ^ k) (h : 0 ≤ H ∧ H < 2 ^ k) (hb : 0 ≤ b ∧ b < 256) : 0 ≤ u ∧ u < 2 ^ (k + 8) := by
  have hp : (0 : Int) < 2 ^ k := Int.pow_pos (by decide)
  have h1 : 0 ≤ b * 2 ^ k := Int.mul_nonneg hb.1 (Int.le_of_lt hp)
  have h2 : b * 2 ^ k ≤ 255 * 2 ^ k := Int.mul_le_mul_of_nonneg_right (by omega) (Int.le_of_lt hp)
  rw [Int.pow_add]
  have : (2 : Int) ^ 8 = 256 := by decide
  rw [this]
  omega
theorem rl2 {q u : Int} (w d : Nat) (e : q = u / 2 ^ w) (h : 0 ≤ u ∧ u < 2 ^ (w + d)) : 0 ≤ q ∧ q < 2 ^ d := by
  have hp : (0 : Int) < 2 ^ w := Int.pow_pos (by decide)
  rw [Int.pow_add] at h
  rw [e]
  exact ⟨Int.ediv_nonneg h.1 (Int.le_of_lt hp), Int.ediv_lt_of_lt_mul hp (by rw [Int.mul_comm]; exact h.2)⟩
theorem nn_shr {z : Int64} {s : Int64} {k n : Nat} (hs : (s.toBitVec.smod 64).toNat = k) (h : 0 ≤ z.toInt ∧ z.toInt < 2 ^ n) (hn : n ≤ 62) : (z >>> s).toInt = z.toInt / 2 ^ k := by
  have hp : ((2 ^ n : Nat) : Int) = 2 ^ n := by norm_cast
  have hp2 : (2 : Nat) ^ n ≤ 2 ^ 62 := Nat.pow_le_pow_right (by decide) hn
  rw [← hp] at h
  have hk : (0 : Int) < 2 ^ k := Int.pow_pos (by decide)
  have a1 : 0 ≤ z.toInt / 2 ^ k := Int.ediv_nonneg h.1 (Int.le_of_lt hk)
  have a2 : z.toInt / 2 ^ k ≤ z.toInt := Int.ediv_le_self _ h.1
  conv => lhs; rw [← Int64.ofInt_toInt z]
  rw [oi_shr _ k hs (by omega) (by omega), oi_to (by omega) (by omega)]
theorem nn_and (z : Int64) (k : Nat) (m : Int64) (hm : m.toBitVec.toNat = 2 ^ k - 1) (hk : k ≤ 62) : (z &&& m).toInt = z.toInt % 2 ^ k := by
  have hp : (0 : Int) < 2 ^ k := Int.pow_pos (by decide)
  conv => lhs; rw [← Int64.ofInt_toInt z]
  rw [oi_and _ k _ hm (by omega)]
  exact oi_small (Int.emod_nonneg _ (by omega)) (Int.emod_lt_of_pos _ hp) hk
def num32 (b : Nat → Int) : Int := b 0 + b 1 * 256 + b 2 * 65536 + b 3 * 16777216 + b 4 * 4294967296 + b 5 * 1099511627776 + b 6 * 281474976710656 + b 7 * 72057594037927936 + b 8 * 18446744073709551616 + b 9 * 4722366482869645213696 + b 10 * 1208925819614629174706176 + b 11 * 309485009821345068724781056 + b 12 * 79228162514264337593543950336 + b 13 * 20282409603651670423947251286016 + b 14 * 5192296858534827628530496329220096 + b 15 * 1329227995784915872903807060280344576 + b 16 * 340282366920938463463374607431768211456 + b 17 * 87112285931760246646623899502532662132736 + b 18 * 22300745198530623141535718272648361505980416 + b 19 * 5708990770823839524233143877797980545530986496 + b 20 * 1461501637330902918203684832716283019655932542976 + b 21 * 374144419156711147060143317175368453031918731001856 + b 22 * 95780971304118053647396689196894323976171195136475136 + b 23 * 24519928653854221733733552434404946937899825954937634816 + b 24 * 6277101735386680763835789423207666416102355444464034512896 + b 25 * 1606938044258990275541962092341162602522202993782792835301376 + b 26 * 411376139330301510538742295639337626245683966408394965837152256 + b 27 * 105312291668557186697918027683670432318895095400549111254310977536 + b 28 * 26959946667150639794667015087019630673637144422540572481103610249216 + b 29 * 6901746346790563787434755862277025452451108972170386555162524223799296 + b 30 * 1766847064778384329583297500742918515827483896875618958121606201292619776 + b 31 * 452312848583266388373324160190187140051835877600158453279131187530910662656
set_option maxHeartbeats 4000000 in
theorem load10 {b0 b1 b2 b3 b4 b5 b6 b7 b8 b9 b10 b11 b12 b13 b14 b15 b16 b17 b18 b19 b20 b21 b22 b23 b24 b25 b26 b27 b28 b29 b30 b31 H0 H1 H2 H3 Q1 H4 H5 H6 Q2 H7 H8 H9 Q3 H10 H11 H12 Q4 H13 H14 H15 Q5 H16 H17 H18 H19 Q6 H20 H21 H22 Q7 H23 H24 H25 Q8 H26 H27 H28 Q9 H29 H30 H31 N : Int} (g0 : 0 ≤ b0 ∧ b0 < 256) (g1 : 0 ≤ b1 ∧ b1 < 256) (g2 : 0 ≤ b2 ∧ b2 < 256) (g3 : 0 ≤ b3 ∧ b3 < 256) (g4 : 0 ≤ b4 ∧ b4 < 256) (g5 : 0 ≤ b5 ∧ b5 < 256) (g6 : 0 ≤ b6 ∧ b6 < 256) (g7 : 0 ≤ b7 ∧ b7 < 256) (g8 : 0 ≤ b8 ∧ b8 < 256) (g9 : 0 ≤ b9 ∧ b9 < 256) (g10 : 0 ≤ b10 ∧ b10 < 256) (g11 : 0 ≤ b11 ∧ b11 < 256) (g12 : 0 ≤ b12 ∧ b12 < 256) (g13 : 0 ≤ b13 ∧ b13 < 256) (g14 : 0 ≤ b14 ∧ b14 < 256) (g15 : 0 ≤ b15 ∧ b15 < 256) (g16 : 0 ≤ b16 ∧ b16 < 256) (g17 : 0 ≤ b17 ∧ b17 < 256) (g18 : 0 ≤ b18 ∧ b18 < 256) (g19 : 0 ≤ b19 ∧ b19 < 256) (g20 : 0 ≤ b20 ∧ b20 < 256) (g21 : 0 ≤ b21 ∧ b21 < 256) (g22 : 0 ≤ b22 ∧ b22 < 256) (g23 : 0 ≤ b23 ∧ b23 < 256) (g24 : 0 ≤ b24 ∧ b24 < 256) (g25 : 0 ≤ b25 ∧ b25 < 256) (g26 : 0 ≤ b26 ∧ b26 < 256) (g27 : 0 ≤ b27 ∧ b27 < 256) (g28 : 0 ≤ b28 ∧ b28 < 256) (g29 : 0 ≤ b29 ∧ b29 < 256) (g30 : 0 ≤ b30 ∧ b30 < 256) (g31 : 0 ≤ b31 ∧ b31 < 256) (h0 : H0 = 0 + b0 * 1) (h1 : H1 = H0 + b1 * 256) (h2 : H2 = H1 + b2 * 65536) (h3 : H3 = H2 + b3 * 16777216) (q1 : Q1 = H3 / 67108864) (h4 : H4 = Q1 + b4 * 64) (h5 : H5 = H4 + b5 * 16384) (h6 : H6 = H5 + b6 * 4194304) (q2 : Q2 = H6 / 33554432) (h7 : H7 = Q2 + b7 * 32) (h8 : H8 = H7 + b8 * 8192) (h9 : H9 = H8 + b9 * 2097152) (q3 : Q3 = H9 / 67108864) (h10 : H10 = Q3 + b10 * 8) (h11 : H11 = H10 + b11 * 2048) (h12 : H12 = H11 + b12 * 524288) (q4 : Q4 = H12 / 33554432) (h13 : H13 = Q4 + b13 * 4) (h14 : H14 = H13 + b14 * 1024) (h15 : H15 = H14 + b15 * 262144) (q5 : Q5 = H15 / 67108864) (h16 : H16 = Q5 + b16 * 1) (h17 : H17 = H16 + b17 * 256) (h18 : H18 = H17 + b18 * 65536) (h19 : H19 = H18 + b19 * 16777216) (q6 : Q6 = H19 / 33554432) (h20 : H20 = Q6 + b20 * 128) (h21 : H21 = H20 + b21 * 32768) (h22 : H22 = H21 + b22 * 8388608) (q7 : Q7 = H22 / 67108864) (h23 : H23 = Q7 + b23 * 32) (h24 : H24 = H23 + b24 * 8192) (h25 : H25 = H24 + b25 * 2097152) (q8 : Q8 = H25 / 33554432) (h26 : H26 = Q8 + b26 * 16) (h27 : H27 = H26 + b27 * 4096) (h28 : H28 = H27 + b28 * 1048576) (q9 : Q9 = H28 / 67108864) (h29 : H29 = Q9 + b29 * 4) (h30 : H30 = H29 + b30 * 1024) (h31 : H31 = H30 + b31 * 262144) (hN : N = b0 + b1 * 256 + b2 * 65536 + b3 * 16777216 + b4 * 4294967296 + b5 * 1099511627776 + b6 * 281474976710656 + b7 * 72057594037927936 + b8 * 18446744073709551616 + b9 * 4722366482869645213696 + b10 * 1208925819614629174706176 + b11 * 309485009821345068724781056 + b12 * 79228162514264337593543950336 + b13 * 20282409603651670423947251286016 + b14 * 5192296858534827628530496329220096 + b15 * 1329227995784915872903807060280344576 + b16 * 340282366920938463463374607431768211456 + b17 * 87112285931760246646623899502532662132736 + b18 * 22300745198530623141535718272648361505980416 + b19 * 5708990770823839524233143877797980545530986496 + b20 * 1461501637330902918203684832716283019655932542976 + b21 * 374144419156711147060143317175368453031918731001856 + b22 * 95780971304118053647396689196894323976171195136475136 + b23 * 24519928653854221733733552434404946937899825954937634816 + b24 * 6277101735386680763835789423207666416102355444464034512896 + b25 * 1606938044258990275541962092341162602522202993782792835301376 + b26 * 411376139330301510538742295639337626245683966408394965837152256 + b27 * 105312291668557186697918027683670432318895095400549111254310977536 + b28 * 26959946667150639794667015087019630673637144422540572481103610249216 + b29 * 6901746346790563787434755862277025452451108972170386555162524223799296 + b30 * 1766847064778384329583297500742918515827483896875618958121606201292619776 + b31 * 452312848583266388373324160190187140051835877600158453279131187530910662656) : H3 % 67108864 = N / 1 % 67108864 ∧ H6 % 33554432 = N / 67108864 % 33554432 ∧ H9 % 67108864 = N / 2251799813685248 % 67108864 ∧ H12 % 33554432 = N / 151115727451828646838272 % 33554432 ∧ H15 % 67108864 = N / 5070602400912917605986812821504 % 67108864 ∧ H19 % 33554432 = N / 340282366920938463463374607431768211456 % 33554432 ∧ H22 % 67108864 = N / 11417981541647679048466287755595961091061972992 % 67108864 ∧ H25 % 33554432 = N / 766247770432944429179173513575154591809369561091801088 % 33554432 ∧ H28 % 67108864 = N / 25711008708143844408671393477458601640355247900524685364822016 % 67108864 ∧ H31 % 33554432 = N / 1725436586697640946858688965569256363112777243042596638790631055949824 % 33554432 := by
  obtain ⟨S0, s0⟩ : ∃ z : Int, z = 0 := ⟨_, rfl⟩
  obtain ⟨S1, s1⟩ : ∃ z : Int, z = S0 + b0 * 1 := ⟨_, rfl⟩
  obtain ⟨S2, s2⟩ : ∃ z : Int, z = S1 + b1 * 256 := ⟨_, rfl⟩
  obtain ⟨S3, s3⟩ : ∃ z : Int, z = S2 + b2 * 65536 := ⟨_, rfl⟩
  obtain ⟨S4, s4⟩ : ∃ z : Int, z = S3 + b3 * 16777216 := ⟨_, rfl⟩
  obtain ⟨S5, s5⟩ : ∃ z : Int, z = S4 + b4 * 4294967296 := ⟨_, rfl⟩
  obtain ⟨S6, s6⟩ : ∃ z : Int, z = S5 + b5 * 1099511627776 := ⟨_, rfl⟩
  obtain ⟨S7, s7⟩ : ∃ z : Int, z = S6 + b6 * 281474976710656 := ⟨_, rfl⟩
  obtain ⟨S8, s8⟩ : ∃ z : Int, z = S7 + b7 * 72057594037927936 := ⟨_, rfl⟩
  obtain ⟨S9, s9⟩ : ∃ z : Int, z = S8 + b8 * 18446744073709551616 := ⟨_, rfl⟩
  obtain ⟨S10, s10⟩ : ∃ z : Int, z = S9 + b9 * 4722366482869645213696 := ⟨_, rfl⟩
  obtain ⟨S11, s11⟩ : ∃ z : Int, z = S10 + b10 * 1208925819614629174706176 := ⟨_, rfl⟩
  obtain ⟨S12, s12⟩ : ∃ z : Int, z = S11 + b11 * 309485009821345068724781056 := ⟨_, rfl⟩
  obtain ⟨S13, s13⟩ : ∃ z : Int, z = S12 + b12 * 79228162514264337593543950336 := ⟨_, rfl⟩
  obtain ⟨S14, s14⟩ : ∃ z : Int, z = S13 + b13 * 20282409603651670423947251286016 := ⟨_, rfl⟩
  obtain ⟨S15, s15⟩ : ∃ z : Int, z = S14 + b14 * 5192296858534827628530496329220096 := ⟨_, rfl⟩
  obtain ⟨S16, s16⟩ : ∃ z : Int, z = S15 + b15 * 1329227995784915872903807060280344576 := ⟨_, rfl⟩
  obtain ⟨S17, s17⟩ : ∃ z : Int, z = S16 + b16 * 340282366920938463463374607431768211456 := ⟨_, rfl⟩
  obtain ⟨S18, s18⟩ : ∃ z : Int, z = S17 + b17 * 87112285931760246646623899502532662132736 := ⟨_, rfl⟩
  obtain ⟨S19, s19⟩ : ∃ z : Int, z = S18 + b18 * 22300745198530623141535718272648361505980416 := ⟨_, rfl⟩
  obtain ⟨S20, s20⟩ : ∃ z : Int, z = S19 + b19 * 5708990770823839524233143877797980545530986496 := ⟨_, rfl⟩
  obtain ⟨S21, s21⟩ : ∃ z : Int, z = S20 + b20 * 1461501637330902918203684832716283019655932542976 := ⟨_, rfl⟩
  obtain ⟨S22, s22⟩ : ∃ z : Int, z = S21 + b21 * 374144419156711147060143317175368453031918731001856 := ⟨_, rfl⟩
  obtain ⟨S23, s23⟩ : ∃ z : Int, z = S22 + b22 * 95780971304118053647396689196894323976171195136475136 := ⟨_, rfl⟩
  obtain ⟨S24, s24⟩ : ∃ z : Int, z = S23 + b23 * 24519928653854221733733552434404946937899825954937634816 := ⟨_, rfl⟩
  obtain ⟨S25, s25⟩ : ∃ z : Int, z = S24 + b24 * 6277101735386680763835789423207666416102355444464034512896 := ⟨_, rfl⟩
  obtain ⟨S26, s26⟩ : ∃ z : Int, z = S25 + b25 * 1606938044258990275541962092341162602522202993782792835301376 := ⟨_, rfl⟩
  obtain ⟨S27, s27⟩ : ∃ z : Int, z = S26 + b26 * 411376139330301510538742295639337626245683966408394965837152256 := ⟨_, rfl⟩
  obtain ⟨S28, s28⟩ : ∃ z : Int, z = S27 + b27 * 105312291668557186697918027683670432318895095400549111254310977536 := ⟨_, rfl⟩
  obtain ⟨S29, s29⟩ : ∃ z : Int, z = S28 + b28 * 26959946667150639794667015087019630673637144422540572481103610249216 := ⟨_, rfl⟩
  obtain ⟨S30, s30⟩ : ∃ z : Int, z = S29 + b29 * 6901746346790563787434755862277025452451108972170386555162524223799296 := ⟨_, rfl⟩
  obtain ⟨S31, s31⟩ : ∃ z : Int, z = S30 + b30 * 1766847064778384329583297500742918515827483896875618958121606201292619776 := ⟨_, rfl⟩
  obtain ⟨S32, s32⟩ : ∃ z : Int, z = S31 + b31 * 452312848583266388373324160190187140051835877600158453279131187530910662656 := ⟨_, rfl⟩
  obtain ⟨R32, _⟩ : ∃ z : Int, z = 0 := ⟨_, rfl⟩
  obtain ⟨R31, t31⟩ : ∃ z : Int, z = b31 + 256 * R32 := ⟨_, rfl⟩
  obtain ⟨R30, t30⟩ : ∃ z : Int, z = b30 + 256 * R31 := ⟨_, rfl⟩
  obtain ⟨R29, t29⟩ : ∃ z : Int, z = b29 + 256 * R30 := ⟨_, rfl⟩
  obtain ⟨R28, t28⟩ : ∃ z : Int, z = b28 + 256 * R29 := ⟨_, rfl⟩
  obtain ⟨R27, t27⟩ : ∃ z : Int, z = b27 + 256 * R28 := ⟨_, rfl⟩
  obtain ⟨R26, t26⟩ : ∃ z : Int, z = b26 + 256 * R27 := ⟨_, rfl⟩
  obtain ⟨R25, t25⟩ : ∃ z : Int, z = b25 + 256 * R26 := ⟨_, rfl⟩
  obtain ⟨R24, t24⟩ : ∃ z : Int, z = b24 + 256 * R25 := ⟨_, rfl⟩
  obtain ⟨R23, t23⟩ : ∃ z : Int, z = b23 + 256 * R24 := ⟨_, rfl⟩
  obtain ⟨R22, t22⟩ : ∃ z : Int, z = b22 + 256 * R23 := ⟨_, rfl⟩
  obtain ⟨R21, t21⟩ : ∃ z : Int, z = b21 + 256 * R22 := ⟨_, rfl⟩
  obtain ⟨R20, t20⟩ : ∃ z : Int, z = b20 + 256 * R21 := ⟨_, rfl⟩
  obtain ⟨R19, t19⟩ : ∃ z : Int, z = b19 + 256 * R20 := ⟨_, rfl⟩
  obtain ⟨R18, t18⟩ : ∃ z : Int, z = b18 + 256 * R19 := ⟨_, rfl⟩
  obtain ⟨R17, t17⟩ : ∃ z : Int, z = b17 + 256 * R18 := ⟨_, rfl⟩
  obtain ⟨R16, t16⟩ : ∃ z : Int, z = b16 + 256 * R17 := ⟨_, rfl⟩
  obtain ⟨R15, t15⟩ : ∃ z : Int, z = b15 + 256 * R16 := ⟨_, rfl⟩
  obtain ⟨R14, t14⟩ : ∃ z : Int, z = b14 + 256 * R15 := ⟨_, rfl⟩
  obtain ⟨R13, t13⟩ : ∃ z : Int, z = b13 + 256 * R14 := ⟨_, rfl⟩
  obtain ⟨R12, t12⟩ : ∃ z : Int, z = b12 + 256 * R13 := ⟨_, rfl⟩
  obtain ⟨R11, t11⟩ : ∃ z : Int, z = b11 + 256 * R12 := ⟨_, rfl⟩
  obtain ⟨R10, t10⟩ : ∃ z : Int, z = b10 + 256 * R11 := ⟨_, rfl⟩
  obtain ⟨R9, t9⟩ : ∃ z : Int, z = b9 + 256 * R10 := ⟨_, rfl⟩
  obtain ⟨R8, t8⟩ : ∃ z : Int, z = b8 + 256 * R9 := ⟨_, rfl⟩
  obtain ⟨R7, t7⟩ : ∃ z : Int, z = b7 + 256 * R8 := ⟨_, rfl⟩
  obtain ⟨R6, t6⟩ : ∃ z : Int, z = b6 + 256 * R7 := ⟨_, rfl⟩
  obtain ⟨R5, t5⟩ : ∃ z : Int, z = b5 + 256 * R6 := ⟨_, rfl⟩
  obtain ⟨R4, t4⟩ : ∃ z : Int, z = b4 + 256 * R5 := ⟨_, rfl⟩
  obtain ⟨R3, t3⟩ : ∃ z : Int, z = b3 + 256 * R4 := ⟨_, rfl⟩
  obtain ⟨R2, t2⟩ : ∃ z : Int, z = b2 + 256 * R3 := ⟨_, rfl⟩
  obtain ⟨R1, t1⟩ : ∃ z : Int, z = b1 + 256 * R2 := ⟨_, rfl⟩
  obtain ⟨R0, t0⟩ : ∃ z : Int, z = b0 + 256 * R1 := ⟨_, rfl⟩
  have n32 : N = S32 + 115792089237316195423570985008687907853269984665640564039457584007913129639936 * R32 := by
    subst s0 s1 s2 s3 s4 s5 s6 s7 s8 s9 s10 s11 s12 s13 s14 s15 s16 s17 s18 s19 s20 s21 s22 s23 s24 s25 s26 s27 s28 s29 s30 s31 s32
    rename_i hR; rw [hR, hN]; simp
  have n31 : N = S31 + 452312848583266388373324160190187140051835877600158453279131187530910662656 * R31 := ls1 (c := 452312848583266388373324160190187140051835877600158453279131187530910662656) n32 s32 t31
  have n30 : N = S30 + 1766847064778384329583297500742918515827483896875618958121606201292619776 * R30 := ls1 (c := 1766847064778384329583297500742918515827483896875618958121606201292619776) n31 s31 t30
  have n29 : N = S29 + 6901746346790563787434755862277025452451108972170386555162524223799296 * R29 := ls1 (c := 6901746346790563787434755862277025452451108972170386555162524223799296) n30 s30 t29
  have n28 : N = S28 + 26959946667150639794667015087019630673637144422540572481103610249216 * R28 := ls1 (c := 26959946667150639794667015087019630673637144422540572481103610249216) n29 s29 t28
  have n27 : N = S27 + 105312291668557186697918027683670432318895095400549111254310977536 * R27 := ls1 (c := 105312291668557186697918027683670432318895095400549111254310977536) n28 s28 t27
  have n26 : N = S26 + 411376139330301510538742295639337626245683966408394965837152256 * R26 := ls1 (c := 411376139330301510538742295639337626245683966408394965837152256) n27 s27 t26
  have n25 : N = S25 + 1606938044258990275541962092341162602522202993782792835301376 * R25 := ls1 (c := 1606938044258990275541962092341162602522202993782792835301376) n26 s26 t25
  have n24 : N = S24 + 6277101735386680763835789423207666416102355444464034512896 * R24 := ls1 (c := 6277101735386680763835789423207666416102355444464034512896) n25 s25 t24
  have n23 : N = S23 + 24519928653854221733733552434404946937899825954937634816 * R23 := ls1 (c := 24519928653854221733733552434404946937899825954937634816) n24 s24 t23
  have n22 : N = S22 + 95780971304118053647396689196894323976171195136475136 * R22 := ls1 (c := 95780971304118053647396689196894323976171195136475136) n23 s23 t22
  have n21 : N = S21 + 374144419156711147060143317175368453031918731001856 * R21 := ls1 (c := 374144419156711147060143317175368453031918731001856) n22 s22 t21
  have n20 : N = S20 + 1461501637330902918203684832716283019655932542976 * R20 := ls1 (c := 1461501637330902918203684832716283019655932542976) n21 s21 t20
  have n19 : N = S19 + 5708990770823839524233143877797980545530986496 * R19 := ls1 (c := 5708990770823839524233143877797980545530986496) n20 s20 t19
  have n18 : N = S18 + 22300745198530623141535718272648361505980416 * R18 := ls1 (c := 22300745198530623141535718272648361505980416) n19 s19 t18
  have n17 : N = S17 + 87112285931760246646623899502532662132736 * R17 := ls1 (c := 87112285931760246646623899502532662132736) n18 s18 t17
  have n16 : N = S16 + 340282366920938463463374607431768211456 * R16 := ls1 (c := 340282366920938463463374607431768211456) n17 s17 t16
  have n15 : N = S15 + 1329227995784915872903807060280344576 * R15 := ls1 (c := 1329227995784915872903807060280344576) n16 s16 t15
  have n14 : N = S14 + 5192296858534827628530496329220096 * R14 := ls1 (c := 5192296858534827628530496329220096) n15 s15 t14
  have n13 : N = S13 + 20282409603651670423947251286016 * R13 := ls1 (c := 20282409603651670423947251286016) n14 s14 t13
  have n12 : N = S12 + 79228162514264337593543950336 * R12 := ls1 (c := 79228162514264337593543950336) n13 s13 t12
  have n11 : N = S11 + 309485009821345068724781056 * R11 := ls1 (c := 309485009821345068724781056) n12 s12 t11
  have n10 : N = S10 + 1208925819614629174706176 * R10 := ls1 (c := 1208925819614629174706176) n11 s11 t10
  have n9 : N = S9 + 4722366482869645213696 * R9 := ls1 (c := 4722366482869645213696) n10 s10 t9
  have n8 : N = S8 + 18446744073709551616 * R8 := ls1 (c := 18446744073709551616) n9 s9 t8
  have n7 : N = S7 + 72057594037927936 * R7 := ls1 (c := 72057594037927936) n8 s8 t7
  have n6 : N = S6 + 281474976710656 * R6 := ls1 (c := 281474976710656) n7 s7 t6
  have n5 : N = S5 + 1099511627776 * R5 := ls1 (c := 1099511627776) n6 s6 t5
  have n4 : N = S4 + 4294967296 * R4 := ls1 (c := 4294967296) n5 s5 t4
  have n3 : N = S3 + 16777216 * R3 := ls1 (c := 16777216) n4 s4 t3
  have n2 : N = S2 + 65536 * R2 := ls1 (c := 65536) n3 s3 t2
  have n1 : N = S1 + 256 * R1 := ls1 (c := 256) n2 s2 t1
  have x0 : (0 : Int) = S0 / 1 := by rw [s0]; rfl
  have y0 : H0 = S1 / 1 := by rw [h0, x0, s1]; exact (ls2 (by decide) (by decide)).symm
  have y1 : H1 = S2 / 1 := by rw [h1, y0, s2]; exact (ls2 (by decide) (by decide)).symm
  have y2 : H2 = S3 / 1 := by rw [h2, y1, s3]; exact (ls2 (by decide) (by decide)).symm
  have y3 : H3 = S4 / 1 := by rw [h3, y2, s4]; exact (ls2 (by decide) (by decide)).symm
  have x1 : Q1 = S4 / 67108864 := by rw [q1, y3, Int.ediv_ediv_of_nonneg (by decide)]; rfl
  have z0 : H3 % 67108864 = N / 1 % 67108864 := by rw [y3]; exact ls3 (d := 64) n4 (by decide) (by decide)
  have y4 : H4 = S5 / 67108864 := by rw [h4, x1, s5]; exact (ls2 (by decide) (by decide)).symm
  have y5 : H5 = S6 / 67108864 := by rw [h5, y4, s6]; exact (ls2 (by decide) (by decide)).symm
  have y6 : H6 = S7 / 67108864 := by rw [h6, y5, s7]; exact (ls2 (by decide) (by decide)).symm
  have x2 : Q2 = S7 / 2251799813685248 := by rw [q2, y6, Int.ediv_ediv_of_nonneg (by decide)]; rfl
  have z1 : H6 % 33554432 = N / 67108864 % 33554432 := by rw [y6]; exact ls3 (d := 32) n7 (by decide) (by decide)
  have y7 : H7 = S8 / 2251799813685248 := by rw [h7, x2, s8]; exact (ls2 (by decide) (by decide)).symm
  have y8 : H8 = S9 / 2251799813685248 := by rw [h8, y7, s9]; exact (ls2 (by decide) (by decide)).symm
  have y9 : H9 = S10 / 2251799813685248 := by rw [h9, y8, s10]; exact (ls2 (by decide) (by decide)).symm
  have x3 : Q3 = S10 / 151115727451828646838272 := by rw [q3, y9, Int.ediv_ediv_of_nonneg (by decide)]; rfl
  have z2 : H9 % 67108864 = N / 2251799813685248 % 67108864 := by rw [y9]; exact ls3 (d := 8) n10 (by decide) (by decide)
  have y10 : H10 = S11 / 151115727451828646838272 := by rw [h10, x3, s11]; exact (ls2 (by decide) (by decide)).symm
  have y11 : H11 = S12 / 151115727451828646838272 := by rw [h11, y10, s12]; exact (ls2 (by decide) (by decide)).symm
  have y12 : H12 = S13 / 151115727451828646838272 := by rw [h12, y11, s13]; exact (ls2 (by decide) (by decide)).symm
  have x4 : Q4 = S13 / 5070602400912917605986812821504 := by rw [q4, y12, Int.ediv_ediv_of_nonneg (by decide)]; rfl
  have z3 : H12 % 33554432 = N / 151115727451828646838272 % 33554432 := by rw [y12]; exact ls3 (d := 4) n13 (by decide) (by decide)
  have y13 : H13 = S14 / 5070602400912917605986812821504 := by rw [h13, x4, s14]; exact (ls2 (by decide) (by decide)).symm
  have y14 : H14 = S15 / 5070602400912917605986812821504 := by rw [h14, y13, s15]; exact (ls2 (by decide) (by decide)).symm
  have y15 : H15 = S16 / 5070602400912917605986812821504 := by rw [h15, y14, s16]; exact (ls2 (by decide) (by decide)).symm
  have x5 : Q5 = S16 / 340282366920938463463374607431768211456 := by rw [q5, y15, Int.ediv_ediv_of_nonneg (by decide)]; rfl
  have z4 : H15 % 67108864 = N / 5070602400912917605986812821504 % 67108864 := by rw [y15]; exact ls3 (d := 1) n16 (by decide) (by decide)
  have y16 : H16 = S17 / 340282366920938463463374607431768211456 := by rw [h16, x5, s17]; exact (ls2 (by decide) (by decide)).symm
  have y17 : H17 = S18 / 340282366920938463463374607431768211456 := by rw [h17, y16, s18]; exact (ls2 (by decide) (by decide)).symm
  have y18 : H18 = S19 / 340282366920938463463374607431768211456 := by rw [h18, y17, s19]; exact (ls2 (by decide) (by decide)).symm
  have y19 : H19 = S20 / 340282366920938463463374607431768211456 := by rw [h19, y18, s20]; exact (ls2 (by decide) (by decide)).symm
  have x6 : Q6 = S20 / 11417981541647679048466287755595961091061972992 := by rw [q6, y19, Int.ediv_ediv_of_nonneg (by decide)]; rfl
  have z5 : H19 % 33554432 = N / 340282366920938463463374607431768211456 % 33554432 := by rw [y19]; exact ls3 (d := 128) n20 (by decide) (by decide)
  have y20 : H20 = S21 / 11417981541647679048466287755595961091061972992 := by rw [h20, x6, s21]; exact (ls2 (by decide) (by decide)).symm
  have y21 : H21 = S22 / 11417981541647679048466287755595961091061972992 := by rw [h21, y20, s22]; exact (ls2 (by decide) (by decide)).symm
  have y22 : H22 = S23 / 11417981541647679048466287755595961091061972992 := by rw [h22, y21, s23]; exact (ls2 (by decide) (by decide)).symm
  have x7 : Q7 = S23 / 766247770432944429179173513575154591809369561091801088 := by rw [q7, y22, Int.ediv_ediv_of_nonneg (by decide)]; rfl
  have z6 : H22 % 67108864 = N / 11417981541647679048466287755595961091061972992 % 67108864 := by rw [y22]; exact ls3 (d := 32) n23 (by decide) (by decide)
  have y23 : H23 = S24 / 766247770432944429179173513575154591809369561091801088 := by rw [h23, x7, s24]; exact (ls2 (by decide) (by decide)).symm
  have y24 : H24 = S25 / 766247770432944429179173513575154591809369561091801088 := by rw [h24, y23, s25]; exact (ls2 (by decide) (by decide)).symm
  have y25 : H25 = S26 / 766247770432944429179173513575154591809369561091801088 := by rw [h25, y24, s26]; exact (ls2 (by decide) (by decide)).symm
  have x8 : Q8 = S26 / 25711008708143844408671393477458601640355247900524685364822016 := by rw [q8, y25, Int.ediv_ediv_of_nonneg (by decide)]; rfl
  have z7 : H25 % 33554432 = N / 766247770432944429179173513575154591809369561091801088 % 33554432 := by rw [y25]; exact ls3 (d := 16) n26 (by decide) (by decide)
  have y26 : H26 = S27 / 25711008708143844408671393477458601640355247900524685364822016 := by rw [h26, x8, s27]; exact (ls2 (by decide) (by decide)).symm
  have y27 : H27 = S28 / 25711008708143844408671393477458601640355247900524685364822016 := by rw [h27, y26, s28]; exact (ls2 (by decide) (by decide)).symm
  have y28 : H28 = S29 / 25711008708143844408671393477458601640355247900524685364822016 := by rw [h28, y27, s29]; exact (ls2 (by decide) (by decide)).symm
  have x9 : Q9 = S29 / 1725436586697640946858688965569256363112777243042596638790631055949824 := by rw [q9, y28, Int.ediv_ediv_of_nonneg (by decide)]; rfl
  have z8 : H28 % 67108864 = N / 25711008708143844408671393477458601640355247900524685364822016 % 67108864 := by rw [y28]; exact ls3 (d := 4) n29 (by decide) (by decide)
  have y29 : H29 = S30 / 1725436586697640946858688965569256363112777243042596638790631055949824 := by rw [h29, x9, s30]; exact (ls2 (by decide) (by decide)).symm
  have y30 : H30 = S31 / 1725436586697640946858688965569256363112777243042596638790631055949824 := by rw [h30, y29, s31]; exact (ls2 (by decide) (by decide)).symm
  have y31 : H31 = S32 / 1725436586697640946858688965569256363112777243042596638790631055949824 := by rw [h31, y30, s32]; exact (ls2 (by decide) (by decide)).symm
  have z9 : H31 % 33554432 = N / 1725436586697640946858688965569256363112777243042596638790631055949824 % 33554432 := by rw [y31]; exact ls3 (d := 2) n32 (by decide) (by decide)
  exact ⟨z0, z1, z2, z3, z4, z5, z6, z7, z8, z9⟩
set_option maxRecDepth 100000 in
set_option maxHeartbeats 4000000 in
theorem x_Fi_load (G : GX) {M : List va_E} {to fr at0 m : Nat} {H : Nat → Int64} {f : Nat → Int32} (kto : K0 ≤ to) (hto : M[to]? = some (lr 10 H)) (hfr : M[fr]? = some (.inl (1, m, .inl f))) (hne : to ≠ fr) (hm : at0 + 32 ≤ m) (hm2 : m < 2 ^ 30) : CT G mi_Fi_load [.ref to, .ref fr, .int (nI at0)] M (fun r M' => r = none ∧ ∃ F', M' = M.set to (lr 10 F') ∧ (F' 0).toInt = num32 (fun k => (f (at0 + k)).toInt % 256) / 1 % 67108864 ∧ (F' 1).toInt = num32 (fun k => (f (at0 + k)).toInt % 256) / 67108864 % 33554432 ∧ (F' 2).toInt = num32 (fun k => (f (at0 + k)).toInt % 256) / 2251799813685248 % 67108864 ∧ (F' 3).toInt = num32 (fun k => (f (at0 + k)).toInt % 256) / 151115727451828646838272 % 33554432 ∧ (F' 4).toInt = num32 (fun k => (f (at0 + k)).toInt % 256) / 5070602400912917605986812821504 % 67108864 ∧ (F' 5).toInt = num32 (fun k => (f (at0 + k)).toInt % 256) / 340282366920938463463374607431768211456 % 33554432 ∧ (F' 6).toInt = num32 (fun k => (f (at0 + k)).toInt % 256) / 11417981541647679048466287755595961091061972992 % 67108864 ∧ (F' 7).toInt = num32 (fun k => (f (at0 + k)).toInt % 256) / 766247770432944429179173513575154591809369561091801088 % 33554432 ∧ (F' 8).toInt = num32 (fun k => (f (at0 + k)).toInt % 256) / 25711008708143844408671393477458601640355247900524685364822016 % 67108864 ∧ (F' 9).toInt = num32 (fun k => (f (at0 + k)).toInt % 256) / 1725436586697640946858688965569256363112777243042596638790631055949824 % 33554432) := by
  refine CT.of (by decide) (Nat.le_of_ble_eq_true rfl) ?_
  have hl := X_len hto
  have hv : ∀ k, k < 32 → vp_in (nI (at0 + k)) m := fun k hk => vp_in_nI (by omega) (by omega)
  have hcl : ∀ k, k < 32 → (nI (at0 + k)).toNatClampNeg = at0 + k := fun k hk => nI_clamp (by omega)
  show TT G mi_Fi_load 0 [(0, .ref to), (1, .ref fr), (2, .int (nI at0))] [] M 0 0 _
  refine T_eq (M' := M.set to (lr 10 H)) rfl rfl rfl (X_same hto) ?_
  refine T_lconst (v := 0) d_Fi_load_0 (by decide) ?_
  refine T_lstore_n (L' := [(3, .long 0), (0, .ref to), (1, .ref fr), (2, .int (nI at0))]) d_Fi_load_1 (by decide) rfl ?_
  refine T_iconst (v := nI 0) d_Fi_load_2 (by decide) ?_
  refine T_istore (L' := [(5, .int (nI 0)), (3, .long 0), (0, .ref to), (1, .ref fr), (2, .int (nI at0))]) d_Fi_load_3 (by decide) rfl ?_
  refine T_iload_n d_Fi_load_5 rfl ?_
  refine T_istore (L' := [(6, .int (nI (at0 + 0))), (5, .int (nI 0)), (3, .long 0), (0, .ref to), (1, .ref fr), (2, .int (nI at0))]) d_Fi_load_6 (by decide) rfl ?_
  refine T_iconst (v := nI 0) d_Fi_load_8 (by decide) ?_
  refine T_istore (L' := [(7, .int (nI 0)), (6, .int (nI (at0 + 0))), (5, .int (nI 0)), (3, .long 0), (0, .ref to), (1, .ref fr), (2, .int (nI at0))]) d_Fi_load_9 (by decide) rfl ?_
  have rng0 : 0 ≤ (0 : Int64).toInt ∧ (0 : Int64).toInt < 2 ^ 0 := by decide
  refine T_iload d_Fi_load_11 rfl ?_
  refine T_bipush (v := nI 10) d_Fi_load_13 (by decide) ?_
  refine T_icmp_ge d_Fi_load_15 (tgt := 88) rfl (fun c => absurd c (by decide)) (fun _ => ?_)
  refine T_bipush (v := nI 26) d_Fi_load_18 (by decide) ?_
  refine T_iload d_Fi_load_20 rfl ?_
  refine T_iconst (v := nI 1) d_Fi_load_22 (by decide) ?_
  refine T_iand d_Fi_load_23 ?_
  refine T_isub d_Fi_load_24 ?_
  refine T_eq (st' := [.int (nI 26)]) rfl rfl rfl rfl ?_
  refine T_istore (L' := [(8, .int (nI 26)), (7, .int (nI 0)), (6, .int (nI (at0 + 0))), (5, .int (nI 0)), (3, .long 0), (0, .ref to), (1, .ref fr), (2, .int (nI at0))]) d_Fi_load_25 (by decide) rfl ?_
  refine T_iload d_Fi_load_27 rfl ?_
  refine T_iload d_Fi_load_29 rfl ?_
  refine T_icmp_ge d_Fi_load_31 (tgt := 58) rfl (fun c => absurd c (by decide)) (fun _ => ?_)
  refine T_lload_n d_Fi_load_34 rfl ?_
  refine T_aload_n (v := .ref fr) d_Fi_load_35 rfl (Or.inr ⟨_, rfl⟩) ?_
  refine T_iload d_Fi_load_36 rfl ?_
  refine T_baload d_Fi_load_38 (X_ne hfr hne) (hv 0 (by decide)) (fun _ => ?_)
  rw [hcl 0 (by decide)]
  refine T_i2l d_Fi_load_39 ?_
  refine T_ldc2 d_Fi_load_40 kJ_Fi_41 ?_
  refine T_land d_Fi_load_43 ?_
  refine T_iload d_Fi_load_44 rfl ?_
  refine T_lshl d_Fi_load_46 ?_
  refine T_lor d_Fi_load_47 ?_
  have st0 := ldstep (0) (f (at0 + 0)) 0 (by decide) rng0.1 rng0.2
  refine T_topl (fun u0 eu0 => ?_)
  rw [← eu0] at st0
  clear eu0
  have by0 : 0 ≤ (f (at0 + 0)).toInt % 256 ∧ (f (at0 + 0)).toInt % 256 < 256 := ⟨Int.emod_nonneg _ (by decide), Int.emod_lt_of_pos _ (by decide)⟩
  have rg0 : 0 ≤ u0.toInt ∧ u0.toInt < 2 ^ 8 := rl1 0 st0 rng0 by0
  refine T_lstore_n (L' := [(3, .long u0), (8, .int (nI 26)), (7, .int (nI 0)), (6, .int (nI (at0 + 0))), (5, .int (nI 0)), (0, .ref to), (1, .ref fr), (2, .int (nI at0))]) d_Fi_load_48 (by decide) rfl ?_
  refine T_iinc (x := nI (at0 + 0)) (L' := [(6, .int (nI (at0 + 1))), (3, .long u0), (8, .int (nI 26)), (7, .int (nI 0)), (5, .int (nI 0)), (0, .ref to), (1, .ref fr), (2, .int (nI at0))]) d_Fi_load_49 (by decide) rfl (by rw [show Int32.ofInt 1 = nI 1 from rfl, nI_add]; rfl) ?_
  refine T_iinc (x := nI 0) (L' := [(5, .int (nI 8)), (6, .int (nI (at0 + 1))), (3, .long u0), (8, .int (nI 26)), (7, .int (nI 0)), (0, .ref to), (1, .ref fr), (2, .int (nI at0))]) d_Fi_load_52 (by decide) rfl rfl ?_
  refine T_goto (tgt := 27) d_Fi_load_55 rfl ?_
  refine T_iload d_Fi_load_27 rfl ?_
  refine T_iload d_Fi_load_29 rfl ?_
  refine T_icmp_ge d_Fi_load_31 (tgt := 58) rfl (fun c => absurd c (by decide)) (fun _ => ?_)
  refine T_lload_n d_Fi_load_34 rfl ?_
  refine T_aload_n (v := .ref fr) d_Fi_load_35 rfl (Or.inr ⟨_, rfl⟩) ?_
  refine T_iload d_Fi_load_36 rfl ?_
  refine T_baload d_Fi_load_38 (X_ne hfr hne) (hv 1 (by decide)) (fun _ => ?_)
  rw [hcl 1 (by decide)]
  refine T_i2l d_Fi_load_39 ?_
  refine T_ldc2 d_Fi_load_40 kJ_Fi_41 ?_
  refine T_land d_Fi_load_43 ?_
  refine T_iload d_Fi_load_44 rfl ?_
  refine T_lshl d_Fi_load_46 ?_
  refine T_lor d_Fi_load_47 ?_
  have st1 := ldstep u0 (f (at0 + 1)) 8 (by decide) rg0.1 rg0.2
  refine T_topl (fun u1 eu1 => ?_)
  rw [← eu1] at st1
  clear eu1
  have by1 : 0 ≤ (f (at0 + 1)).toInt % 256 ∧ (f (at0 + 1)).toInt % 256 < 256 := ⟨Int.emod_nonneg _ (by decide), Int.emod_lt_of_pos _ (by decide)⟩
  have rg1 : 0 ≤ u1.toInt ∧ u1.toInt < 2 ^ 16 := rl1 8 st1 rg0 by1
  refine T_lstore_n (L' := [(3, .long u1), (5, .int (nI 8)), (6, .int (nI (at0 + 1))), (8, .int (nI 26)), (7, .int (nI 0)), (0, .ref to), (1, .ref fr), (2, .int (nI at0))]) d_Fi_load_48 (by decide) rfl ?_
  refine T_iinc (x := nI (at0 + 1)) (L' := [(6, .int (nI (at0 + 2))), (3, .long u1), (5, .int (nI 8)), (8, .int (nI 26)), (7, .int (nI 0)), (0, .ref to), (1, .ref fr), (2, .int (nI at0))]) d_Fi_load_49 (by decide) rfl (by rw [show Int32.ofInt 1 = nI 1 from rfl, nI_add]; rfl) ?_
  refine T_iinc (x := nI 8) (L' := [(5, .int (nI 16)), (6, .int (nI (at0 + 2))), (3, .long u1), (8, .int (nI 26)), (7, .int (nI 0)), (0, .ref to), (1, .ref fr), (2, .int (nI at0))]) d_Fi_load_52 (by decide) rfl rfl ?_
  refine T_goto (tgt := 27) d_Fi_load_55 rfl ?_
  refine T_iload d_Fi_load_27 rfl ?_
  refine T_iload d_Fi_load_29 rfl ?_
  refine T_icmp_ge d_Fi_load_31 (tgt := 58) rfl (fun c => absurd c (by decide)) (fun _ => ?_)
  refine T_lload_n d_Fi_load_34 rfl ?_
  refine T_aload_n (v := .ref fr) d_Fi_load_35 rfl (Or.inr ⟨_, rfl⟩) ?_
  refine T_iload d_Fi_load_36 rfl ?_
  refine T_baload d_Fi_load_38 (X_ne hfr hne) (hv 2 (by decide)) (fun _ => ?_)
  rw [hcl 2 (by decide)]
  refine T_i2l d_Fi_load_39 ?_
  refine T_ldc2 d_Fi_load_40 kJ_Fi_41 ?_
  refine T_land d_Fi_load_43 ?_
  refine T_iload d_Fi_load_44 rfl ?_
  refine T_lshl d_Fi_load_46 ?_
  refine T_lor d_Fi_load_47 ?_
  have st2 := ldstep u1 (f (at0 + 2)) 16 (by decide) rg1.1 rg1.2
  refine T_topl (fun u2 eu2 => ?_)
  rw [← eu2] at st2
  clear eu2
  have by2 : 0 ≤ (f (at0 + 2)).toInt % 256 ∧ (f (at0 + 2)).toInt % 256 < 256 := ⟨Int.emod_nonneg _ (by decide), Int.emod_lt_of_pos _ (by decide)⟩
  have rg2 : 0 ≤ u2.toInt ∧ u2.toInt < 2 ^ 24 := rl1 16 st2 rg1 by2
  refine T_lstore_n (L' := [(3, .long u2), (5, .int (nI 16)), (6, .int (nI (at0 + 2))), (8, .int (nI 26)), (7, .int (nI 0)), (0, .ref to), (1, .ref fr), (2, .int (nI at0))]) d_Fi_load_48 (by decide) rfl ?_
  refine T_iinc (x := nI (at0 + 2)) (L' := [(6, .int (nI (at0 + 3))), (3, .long u2), (5, .int (nI 16)), (8, .int (nI 26)), (7, .int (nI 0)), (0, .ref to), (1, .ref fr), (2, .int (nI at0))]) d_Fi_load_49 (by decide) rfl (by rw [show Int32.ofInt 1 = nI 1 from rfl, nI_add]; rfl) ?_
  refine T_iinc (x := nI 16) (L' := [(5, .int (nI 24)), (6, .int (nI (at0 + 3))), (3, .long u2), (8, .int (nI 26)), (7, .int (nI 0)), (0, .ref to), (1, .ref fr), (2, .int (nI at0))]) d_Fi_load_52 (by decide) rfl rfl ?_
  refine T_goto (tgt := 27) d_Fi_load_55 rfl ?_
  refine T_iload d_Fi_load_27 rfl ?_
  refine T_iload d_Fi_load_29 rfl ?_
  refine T_icmp_ge d_Fi_load_31 (tgt := 58) rfl (fun c => absurd c (by decide)) (fun _ => ?_)
  refine T_lload_n d_Fi_load_34 rfl ?_
  refine T_aload_n (v := .ref fr) d_Fi_load_35 rfl (Or.inr ⟨_, rfl⟩) ?_
  refine T_iload d_Fi_load_36 rfl ?_
  refine T_baload d_Fi_load_38 (X_ne hfr hne) (hv 3 (by decide)) (fun _ => ?_)
  rw [hcl 3 (by decide)]
  refine T_i2l d_Fi_load_39 ?_
  refine T_ldc2 d_Fi_load_40 kJ_Fi_41 ?_
  refine T_land d_Fi_load_43 ?_
  refine T_iload d_Fi_load_44 rfl ?_
  refine T_lshl d_Fi_load_46 ?_
  refine T_lor d_Fi_load_47 ?_
  have st3 := ldstep u2 (f (at0 + 3)) 24 (by decide) rg2.1 rg2.2
  refine T_topl (fun u3 eu3 => ?_)
  rw [← eu3] at st3
  clear eu3
  have by3 : 0 ≤ (f (at0 + 3)).toInt % 256 ∧ (f (at0 + 3)).toInt % 256 < 256 := ⟨Int.emod_nonneg _ (by decide), Int.emod_lt_of_pos _ (by decide)⟩
  have rg3 : 0 ≤ u3.toInt ∧ u3.toInt < 2 ^ 32 := rl1 24 st3 rg2 by3
  refine T_lstore_n (L' := [(3, .long u3), (5, .int (nI 24)), (6, .int (nI (at0 + 3))), (8, .int (nI 26)), (7, .int (nI 0)), (0, .ref to), (1, .ref fr), (2, .int (nI at0))]) d_Fi_load_48 (by decide) rfl ?_
  refine T_iinc (x := nI (at0 + 3)) (L' := [(6, .int (nI (at0 + 4))), (3, .long u3), (5, .int (nI 24)), (8, .int (nI 26)), (7, .int (nI 0)), (0, .ref to), (1, .ref fr), (2, .int (nI at0))]) d_Fi_load_49 (by decide) rfl (by rw [show Int32.ofInt 1 = nI 1 from rfl, nI_add]; rfl) ?_
  refine T_iinc (x := nI 24) (L' := [(5, .int (nI 32)), (6, .int (nI (at0 + 4))), (3, .long u3), (8, .int (nI 26)), (7, .int (nI 0)), (0, .ref to), (1, .ref fr), (2, .int (nI at0))]) d_Fi_load_52 (by decide) rfl rfl ?_
  refine T_goto (tgt := 27) d_Fi_load_55 rfl ?_
  refine T_iload d_Fi_load_27 rfl ?_
  refine T_iload d_Fi_load_29 rfl ?_
  refine T_icmp_ge d_Fi_load_31 (tgt := 58) rfl (fun _ => ?_) (fun c => absurd (by decide) c)
  refine T_aload_n (v := .ref to) d_Fi_load_58 rfl (Or.inr ⟨_, rfl⟩) ?_
  refine T_iload d_Fi_load_59 rfl ?_
  refine T_lload_n d_Fi_load_61 rfl ?_
  refine T_lconst (v := 1) d_Fi_load_62 (by decide) ?_
  refine T_iload d_Fi_load_63 rfl ?_
  refine T_lshl d_Fi_load_65 ?_
  refine T_lconst (v := 1) d_Fi_load_66 (by decide) ?_
  refine T_lsub d_Fi_load_67 ?_
  refine T_land d_Fi_load_68 ?_
  refine T_topl (fun m0 em0 => ?_)
  have tm0 : m0.toInt = u3.toInt % 67108864 := by
    rw [em0, show (1 : Int64) <<< ((nI 26).toInt64 &&& 63) - 1 = 67108863 from rfl]; exact nn_and _ 26 _ (by decide) (by decide)
  clear em0
  refine X_last (n := 10) (k := 0) d_Fi_load_69 kto (by decide) (by decide) hl ?_
  refine T_lload_n d_Fi_load_70 rfl ?_
  refine T_iload d_Fi_load_71 rfl ?_
  refine T_lshr d_Fi_load_73 ?_
  refine T_topl (fun q1 eq1 => ?_)
  have tq1 : q1.toInt = u3.toInt / 67108864 := by
    rw [eq1]; exact nn_shr s26_ rg3 (by decide)
  clear eq1
  have rq1 : 0 ≤ q1.toInt ∧ q1.toInt < 2 ^ 6 := rl2 26 6 tq1 rg3
  refine T_lstore_n (L' := [(3, .long q1), (5, .int (nI 32)), (6, .int (nI (at0 + 4))), (8, .int (nI 26)), (7, .int (nI 0)), (0, .ref to), (1, .ref fr), (2, .int (nI at0))]) d_Fi_load_74 (by decide) rfl ?_
  refine T_iload d_Fi_load_75 rfl ?_
  refine T_iload d_Fi_load_77 rfl ?_
  refine T_isub d_Fi_load_79 ?_
  refine T_eq (st' := [.int (nI 6)]) rfl rfl rfl rfl ?_
  refine T_istore (L' := [(5, .int (nI 6)), (3, .long q1), (6, .int (nI (at0 + 4))), (8, .int (nI 26)), (7, .int (nI 0)), (0, .ref to), (1, .ref fr), (2, .int (nI at0))]) d_Fi_load_80 (by decide) rfl ?_
  refine T_iinc (x := nI 0) (L' := [(7, .int (nI 1)), (5, .int (nI 6)), (3, .long q1), (6, .int (nI (at0 + 4))), (8, .int (nI 26)), (0, .ref to), (1, .ref fr), (2, .int (nI at0))]) d_Fi_load_82 (by decide) rfl rfl ?_
  refine T_goto (tgt := 11) d_Fi_load_85 rfl ?_
  refine T_iload d_Fi_load_11 rfl ?_
  refine T_bipush (v := nI 10) d_Fi_load_13 (by decide) ?_
  refine T_icmp_ge d_Fi_load_15 (tgt := 88) rfl (fun c => absurd c (by decide)) (fun _ => ?_)
  refine T_bipush (v := nI 26) d_Fi_load_18 (by decide) ?_
  refine T_iload d_Fi_load_20 rfl ?_
  refine T_iconst (v := nI 1) d_Fi_load_22 (by decide) ?_
  refine T_iand d_Fi_load_23 ?_
  refine T_isub d_Fi_load_24 ?_
  refine T_eq (st' := [.int (nI 25)]) rfl rfl rfl rfl ?_
  refine T_istore (L' := [(8, .int (nI 25)), (7, .int (nI 1)), (5, .int (nI 6)), (3, .long q1), (6, .int (nI (at0 + 4))), (0, .ref to), (1, .ref fr), (2, .int (nI at0))]) d_Fi_load_25 (by decide) rfl ?_
  refine T_iload d_Fi_load_27 rfl ?_
  refine T_iload d_Fi_load_29 rfl ?_
  refine T_icmp_ge d_Fi_load_31 (tgt := 58) rfl (fun c => absurd c (by decide)) (fun _ => ?_)
  refine T_lload_n d_Fi_load_34 rfl ?_
  refine T_aload_n (v := .ref fr) d_Fi_load_35 rfl (Or.inr ⟨_, rfl⟩) ?_
  refine T_iload d_Fi_load_36 rfl ?_
  refine T_baload d_Fi_load_38 (X_ne hfr hne) (hv 4 (by decide)) (fun _ => ?_)
  rw [hcl 4 (by decide)]
  refine T_i2l d_Fi_load_39 ?_
  refine T_ldc2 d_Fi_load_40 kJ_Fi_41 ?_
  refine T_land d_Fi_load_43 ?_
  refine T_iload d_Fi_load_44 rfl ?_
  refine T_lshl d_Fi_load_46 ?_
  refine T_lor d_Fi_load_47 ?_
  have st4 := ldstep q1 (f (at0 + 4)) 6 (by decide) rq1.1 rq1.2
  refine T_topl (fun u4 eu4 => ?_)
  rw [← eu4] at st4
  clear eu4
  have by4 : 0 ≤ (f (at0 + 4)).toInt % 256 ∧ (f (at0 + 4)).toInt % 256 < 256 := ⟨Int.emod_nonneg _ (by decide), Int.emod_lt_of_pos _ (by decide)⟩
  have rg4 : 0 ≤ u4.toInt ∧ u4.toInt < 2 ^ 14 := rl1 6 st4 rq1 by4
  refine T_lstore_n (L' := [(3, .long u4), (8, .int (nI 25)), (7, .int (nI 1)), (5, .int (nI 6)), (6, .int (nI (at0 + 4))), (0, .ref to), (1, .ref fr), (2, .int (nI at0))]) d_Fi_load_48 (by decide) rfl ?_
  refine T_iinc (x := nI (at0 + 4)) (L' := [(6, .int (nI (at0 + 5))), (3, .long u4), (8, .int (nI 25)), (7, .int (nI 1)), (5, .int (nI 6)), (0, .ref to), (1, .ref fr), (2, .int (nI at0))]) d_Fi_load_49 (by decide) rfl (by rw [show Int32.ofInt 1 = nI 1 from rfl, nI_add]; rfl) ?_
  refine T_iinc (x := nI 6) (L' := [(5, .int (nI 14)), (6, .int (nI (at0 + 5))), (3, .long u4), (8, .int (nI 25)), (7, .int (nI 1)), (0, .ref to), (1, .ref fr), (2, .int (nI at0))]) d_Fi_load_52 (by decide) rfl rfl ?_
  refine T_goto (tgt := 27) d_Fi_load_55 rfl ?_
  refine T_iload d_Fi_load_27 rfl ?_
  refine T_iload d_Fi_load_29 rfl ?_
  refine T_icmp_ge d_Fi_load_31 (tgt := 58) rfl (fun c => absurd c (by decide)) (fun _ => ?_)
  refine T_lload_n d_Fi_load_34 rfl ?_
  refine T_aload_n (v := .ref fr) d_Fi_load_35 rfl (Or.inr ⟨_, rfl⟩) ?_
  refine T_iload d_Fi_load_36 rfl ?_
  refine T_baload d_Fi_load_38 (X_ne hfr hne) (hv 5 (by decide)) (fun _ => ?_)
  rw [hcl 5 (by decide)]
  refine T_i2l d_Fi_load_39 ?_
  refine T_ldc2 d_Fi_load_40 kJ_Fi_41 ?_
  refine T_land d_Fi_load_43 ?_
  refine T_iload d_Fi_load_44 rfl ?_
  refine T_lshl d_Fi_load_46 ?_
  refine T_lor d_Fi_load_47 ?_
  have st5 := ldstep u4 (f (at0 + 5)) 14 (by decide) rg4.1 rg4.2
  refine T_topl (fun u5 eu5 => ?_)
  rw [← eu5] at st5
  clear eu5
  have by5 : 0 ≤ (f (at0 + 5)).toInt % 256 ∧ (f (at0 + 5)).toInt % 256 < 256 := ⟨Int.emod_nonneg _ (by decide), Int.emod_lt_of_pos _ (by decide)⟩
  have rg5 : 0 ≤ u5.toInt ∧ u5.toInt < 2 ^ 22 := rl1 14 st5 rg4 by5
  refine T_lstore_n (L' := [(3, .long u5), (5, .int (nI 14)), (6, .int (nI (at0 + 5))), (8, .int (nI 25)), (7, .int (nI 1)), (0, .ref to), (1, .ref fr), (2, .int (nI at0))]) d_Fi_load_48 (by decide) rfl ?_
  refine T_iinc (x := nI (at0 + 5)) (L' := [(6, .int (nI (at0 + 6))), (3, .long u5), (5, .int (nI 14)), (8, .int (nI 25)), (7, .int (nI 1)), (0, .ref to), (1, .ref fr), (2, .int (nI at0))]) d_Fi_load_49 (by decide) rfl (by rw [show Int32.ofInt 1 = nI 1 from rfl, nI_add]; rfl) ?_
  refine T_iinc (x := nI 14) (L' := [(5, .int (nI 22)), (6, .int (nI (at0 + 6))), (3, .long u5), (8, .int (nI 25)), (7, .int (nI 1)), (0, .ref to), (1, .ref fr), (2, .int (nI at0))]) d_Fi_load_52 (by decide) rfl rfl ?_
  refine T_goto (tgt := 27) d_Fi_load_55 rfl ?_
  refine T_iload d_Fi_load_27 rfl ?_
  refine T_iload d_Fi_load_29 rfl ?_
  refine T_icmp_ge d_Fi_load_31 (tgt := 58) rfl (fun c => absurd c (by decide)) (fun _ => ?_)
  refine T_lload_n d_Fi_load_34 rfl ?_
  refine T_aload_n (v := .ref fr) d_Fi_load_35 rfl (Or.inr ⟨_, rfl⟩) ?_
  refine T_iload d_Fi_load_36 rfl ?_
  refine T_baload d_Fi_load_38 (X_ne hfr hne) (hv 6 (by decide)) (fun _ => ?_)
  rw [hcl 6 (by decide)]
  refine T_i2l d_Fi_load_39 ?_
  refine T_ldc2 d_Fi_load_40 kJ_Fi_41 ?_
  refine T_land d_Fi_load_43 ?_
  refine T_iload d_Fi_load_44 rfl ?_
  refine T_lshl d_Fi_load_46 ?_
  refine T_lor d_Fi_load_47 ?_
  have st6 := ldstep u5 (f (at0 + 6)) 22 (by decide) rg5.1 rg5.2
  refine T_topl (fun u6 eu6 => ?_)
  rw [← eu6] at st6
  clear eu6
  have by6 : 0 ≤ (f (at0 + 6)).toInt % 256 ∧ (f (at0 + 6)).toInt % 256 < 256 := ⟨Int.emod_nonneg _ (by decide), Int.emod_lt_of_pos _ (by decide)⟩
  have rg6 : 0 ≤ u6.toInt ∧ u6.toInt < 2 ^ 30 := rl1 22 st6 rg5 by6
  refine T_lstore_n (L' := [(3, .long u6), (5, .int (nI 22)), (6, .int (nI (at0 + 6))), (8, .int (nI 25)), (7, .int (nI 1)), (0, .ref to), (1, .ref fr), (2, .int (nI at0))]) d_Fi_load_48 (by decide) rfl ?_
  refine T_iinc (x := nI (at0 + 6)) (L' := [(6, .int (nI (at0 + 7))), (3, .long u6), (5, .int (nI 22)), (8, .int (nI 25)), (7, .int (nI 1)), (0, .ref to), (1, .ref fr), (2, .int (nI at0))]) d_Fi_load_49 (by decide) rfl (by rw [show Int32.ofInt 1 = nI 1 from rfl, nI_add]; rfl) ?_
  refine T_iinc (x := nI 22) (L' := [(5, .int (nI 30)), (6, .int (nI (at0 + 7))), (3, .long u6), (8, .int (nI 25)), (7, .int (nI 1)), (0, .ref to), (1, .ref fr), (2, .int (nI at0))]) d_Fi_load_52 (by decide) rfl rfl ?_
  refine T_goto (tgt := 27) d_Fi_load_55 rfl ?_
  refine T_iload d_Fi_load_27 rfl ?_
  refine T_iload d_Fi_load_29 rfl ?_
  refine T_icmp_ge d_Fi_load_31 (tgt := 58) rfl (fun _ => ?_) (fun c => absurd (by decide) c)
  refine T_aload_n (v := .ref to) d_Fi_load_58 rfl (Or.inr ⟨_, rfl⟩) ?_
  refine T_iload d_Fi_load_59 rfl ?_
  refine T_lload_n d_Fi_load_61 rfl ?_
  refine T_lconst (v := 1) d_Fi_load_62 (by decide) ?_
  refine T_iload d_Fi_load_63 rfl ?_
  refine T_lshl d_Fi_load_65 ?_
  refine T_lconst (v := 1) d_Fi_load_66 (by decide) ?_
  refine T_lsub d_Fi_load_67 ?_
  refine T_land d_Fi_load_68 ?_
  refine T_topl (fun m1 em1 => ?_)
  have tm1 : m1.toInt = u6.toInt % 33554432 := by
    rw [em1, show (1 : Int64) <<< ((nI 25).toInt64 &&& 63) - 1 = 33554431 from rfl]; exact nn_and _ 25 _ (by decide) (by decide)
  clear em1
  refine X_last (n := 10) (k := 1) d_Fi_load_69 kto (by decide) (by decide) hl ?_
  refine T_lload_n d_Fi_load_70 rfl ?_
  refine T_iload d_Fi_load_71 rfl ?_
  refine T_lshr d_Fi_load_73 ?_
  refine T_topl (fun q2 eq2 => ?_)
  have tq2 : q2.toInt = u6.toInt / 33554432 := by
    rw [eq2]; exact nn_shr s25_ rg6 (by decide)
  clear eq2
  have rq2 : 0 ≤ q2.toInt ∧ q2.toInt < 2 ^ 5 := rl2 25 5 tq2 rg6
  refine T_lstore_n (L' := [(3, .long q2), (5, .int (nI 30)), (6, .int (nI (at0 + 7))), (8, .int (nI 25)), (7, .int (nI 1)), (0, .ref to), (1, .ref fr), (2, .int (nI at0))]) d_Fi_load_74 (by decide) rfl ?_
  refine T_iload d_Fi_load_75 rfl ?_
  refine T_iload d_Fi_load_77 rfl ?_
  refine T_isub d_Fi_load_79 ?_
  refine T_eq (st' := [.int (nI 5)]) rfl rfl rfl rfl ?_
  refine T_istore (L' := [(5, .int (nI 5)), (3, .long q2), (6, .int (nI (at0 + 7))), (8, .int (nI 25)), (7, .int (nI 1)), (0, .ref to), (1, .ref fr), (2, .int (nI at0))]) d_Fi_load_80 (by decide) rfl ?_
  refine T_iinc (x := nI 1) (L' := [(7, .int (nI 2)), (5, .int (nI 5)), (3, .long q2), (6, .int (nI (at0 + 7))), (8, .int (nI 25)), (0, .ref to), (1, .ref fr), (2, .int (nI at0))]) d_Fi_load_82 (by decide) rfl rfl ?_
  refine T_goto (tgt := 11) d_Fi_load_85 rfl ?_
  refine T_iload d_Fi_load_11 rfl ?_
  refine T_bipush (v := nI 10) d_Fi_load_13 (by decide) ?_
  refine T_icmp_ge d_Fi_load_15 (tgt := 88) rfl (fun c => absurd c (by decide)) (fun _ => ?_)
  refine T_bipush (v := nI 26) d_Fi_load_18 (by decide) ?_
  refine T_iload d_Fi_load_20 rfl ?_
  refine T_iconst (v := nI 1) d_Fi_load_22 (by decide) ?_
  refine T_iand d_Fi_load_23 ?_
  refine T_isub d_Fi_load_24 ?_
  refine T_eq (st' := [.int (nI 26)]) rfl rfl rfl rfl ?_
  refine T_istore (L' := [(8, .int (nI 26)), (7, .int (nI 2)), (5, .int (nI 5)), (3, .long q2), (6, .int (nI (at0 + 7))), (0, .ref to), (1, .ref fr), (2, .int (nI at0))]) d_Fi_load_25 (by decide) rfl ?_
  refine T_iload d_Fi_load_27 rfl ?_
  refine T_iload d_Fi_load_29 rfl ?_
  refine T_icmp_ge d_Fi_load_31 (tgt := 58) rfl (fun c => absurd c (by decide)) (fun _ => ?_)
  refine T_lload_n d_Fi_load_34 rfl ?_
  refine T_aload_n (v := .ref fr) d_Fi_load_35 rfl (Or.inr ⟨_, rfl⟩) ?_
  refine T_iload d_Fi_load_36 rfl ?_
  refine T_baload d_Fi_load_38 (X_ne hfr hne) (hv 7 (by decide)) (fun _ => ?_)
  rw [hcl 7 (by decide)]
  refine T_i2l d_Fi_load_39 ?_
  refine T_ldc2 d_Fi_load_40 kJ_Fi_41 ?_
  refine T_land d_Fi_load_43 ?_
  refine T_iload d_Fi_load_44 rfl ?_
  refine T_lshl d_Fi_load_46 ?_
  refine T_lor d_Fi_load_47 ?_
  have st7 := ldstep q2 (f (at0 + 7)) 5 (by decide) rq2.1 rq2.2
  refine T_topl (fun u7 eu7 => ?_)
  rw [← eu7] at st7
  clear eu7
  have by7 : 0 ≤ (f (at0 + 7)).toInt % 256 ∧ (f (at0 + 7)).toInt % 256 < 256 := ⟨Int.emod_nonneg _ (by decide), Int.emod_lt_of_pos _ (by decide)⟩
  have rg7 : 0 ≤ u7.toInt ∧ u7.toInt < 2 ^ 13 := rl1 5 st7 rq2 by7
  refine T_lstore_n (L' := [(3, .long u7), (8, .int (nI 26)), (7, .int (nI 2)), (5, .int (nI 5)), (6, .int (nI (at0 + 7))), (0, .ref to), (1, .ref fr), (2, .int (nI at0))]) d_Fi_load_48 (by decide) rfl ?_
  refine T_iinc (x := nI (at0 + 7)) (L' := [(6, .int (nI (at0 + 8))), (3, .long u7), (8, .int (nI 26)), (7, .int (nI 2)), (5, .int (nI 5)), (0, .ref to), (1, .ref fr), (2, .int (nI at0))]) d_Fi_load_49 (by decide) rfl (by rw [show Int32.ofInt 1 = nI 1 from rfl, nI_add]; rfl) ?_
  refine T_iinc (x := nI 5) (L' := [(5, .int (nI 13)), (6, .int (nI (at0 + 8))), (3, .long u7), (8, .int (nI 26)), (7, .int (nI 2)), (0, .ref to), (1, .ref fr), (2, .int (nI at0))]) d_Fi_load_52 (by decide) rfl rfl ?_
  refine T_goto (tgt := 27) d_Fi_load_55 rfl ?_
  refine T_iload d_Fi_load_27 rfl ?_
  refine T_iload d_Fi_load_29 rfl ?_
  refine T_icmp_ge d_Fi_load_31 (tgt := 58) rfl (fun c => absurd c (by decide)) (fun _ => ?_)
  refine T_lload_n d_Fi_load_34 rfl ?_
  refine T_aload_n (v := .ref fr) d_Fi_load_35 rfl (Or.inr ⟨_, rfl⟩) ?_
  refine T_iload d_Fi_load_36 rfl ?_
  refine T_baload d_Fi_load_38 (X_ne hfr hne) (hv 8 (by decide)) (fun _ => ?_)
  rw [hcl 8 (by decide)]
  refine T_i2l d_Fi_load_39 ?_
  refine T_ldc2 d_Fi_load_40 kJ_Fi_41 ?_
  refine T_land d_Fi_load_43 ?_
  refine T_iload d_Fi_load_44 rfl ?_
  refine T_lshl d_Fi_load_46 ?_
  refine T_lor d_Fi_load_47 ?_
  have st8 := ldstep u7 (f (at0 + 8)) 13 (by decide) rg7.1 rg7.2
  refine T_topl (fun u8 eu8 => ?_)
  rw [← eu8] at st8
  clear eu8
  have by8 : 0 ≤ (f (at0 + 8)).toInt % 256 ∧ (f (at0 + 8)).toInt % 256 < 256 := ⟨Int.emod_nonneg _ (by decide), Int.emod_lt_of_pos _ (by decide)⟩
  have rg8 : 0 ≤ u8.toInt ∧ u8.toInt < 2 ^ 21 := rl1 13 st8 rg7 by8
  refine T_lstore_n (L' := [(3, .long u8), (5, .int (nI 13)), (6, .int (nI (at0 + 8))), (8, .int (nI 26)), (7, .int (nI 2)), (0, .ref to), (1, .ref fr), (2, .int (nI at0))]) d_Fi_load_48 (by decide) rfl ?_
  refine T_iinc (x := nI (at0 + 8)) (L' := [(6, .int (nI (at0 + 9))), (3, .long u8), (5, .int (nI 13)), (8, .int (nI 26)), (7, .int (nI 2)), (0, .ref to), (1, .ref fr), (2, .int (nI at0))]) d_Fi_load_49 (by decide) rfl (by rw [show Int32.ofInt 1 = nI 1 from rfl, nI_add]; rfl) ?_
  refine T_iinc (x := nI 13) (L' := [(5, .int (nI 21)), (6, .int (nI (at0 + 9))), (3, .long u8), (8, .int (nI 26)), (7, .int (nI 2)), (0, .ref to), (1, .ref fr), (2, .int (nI at0))]) d_Fi_load_52 (by decide) rfl rfl ?_
  refine T_goto (tgt := 27) d_Fi_load_55 rfl ?_
  refine T_iload d_Fi_load_27 rfl ?_
  refine T_iload d_Fi_load_29 rfl ?_
  refine T_icmp_ge d_Fi_load_31 (tgt := 58) rfl (fun c => absurd c (by decide)) (fun _ => ?_)
  refine T_lload_n d_Fi_load_34 rfl ?_
  refine T_aload_n (v := .ref fr) d_Fi_load_35 rfl (Or.inr ⟨_, rfl⟩) ?_
  refine T_iload d_Fi_load_36 rfl ?_
  refine T_baload d_Fi_load_38 (X_ne hfr hne) (hv 9 (by decide)) (fun _ => ?_)
  rw [hcl 9 (by decide)]
  refine T_i2l d_Fi_load_39 ?_
  refine T_ldc2 d_Fi_load_40 kJ_Fi_41 ?_
  refine T_land d_Fi_load_43 ?_
  refine T_iload d_Fi_load_44 rfl ?_
  refine T_lshl d_Fi_load_46 ?_
  refine T_lor d_Fi_load_47 ?_
  have st9 := ldstep u8 (f (at0 + 9)) 21 (by decide) rg8.1 rg8.2
  refine T_topl (fun u9 eu9 => ?_)
  rw [← eu9] at st9
  clear eu9
  have by9 : 0 ≤ (f (at0 + 9)).toInt % 256 ∧ (f (at0 + 9)).toInt % 256 < 256 := ⟨Int.emod_nonneg _ (by decide), Int.emod_lt_of_pos _ (by decide)⟩
  have rg9 : 0 ≤ u9.toInt ∧ u9.toInt < 2 ^ 29 := rl1 21 st9 rg8 by9
  refine T_lstore_n (L' := [(3, .long u9), (5, .int (nI 21)), (6, .int (nI (at0 + 9))), (8, .int (nI 26)), (7, .int (nI 2)), (0, .ref to), (1, .ref fr), (2, .int (nI at0))]) d_Fi_load_48 (by decide) rfl ?_
  refine T_iinc (x := nI (at0 + 9)) (L' := [(6, .int (nI (at0 + 10))), (3, .long u9), (5, .int (nI 21)), (8, .int (nI 26)), (7, .int (nI 2)), (0, .ref to), (1, .ref fr), (2, .int (nI at0))]) d_Fi_load_49 (by decide) rfl (by rw [show Int32.ofInt 1 = nI 1 from rfl, nI_add]; rfl) ?_
  refine T_iinc (x := nI 21) (L' := [(5, .int (nI 29)), (6, .int (nI (at0 + 10))), (3, .long u9), (8, .int (nI 26)), (7, .int (nI 2)), (0, .ref to), (1, .ref fr), (2, .int (nI at0))]) d_Fi_load_52 (by decide) rfl rfl ?_
  refine T_goto (tgt := 27) d_Fi_load_55 rfl ?_
  refine T_iload d_Fi_load_27 rfl ?_
  refine T_iload d_Fi_load_29 rfl ?_
  refine T_icmp_ge d_Fi_load_31 (tgt := 58) rfl (fun _ => ?_) (fun c => absurd (by decide) c)
  refine T_aload_n (v := .ref to) d_Fi_load_58 rfl (Or.inr ⟨_, rfl⟩) ?_
  refine T_iload d_Fi_load_59 rfl ?_
  refine T_lload_n d_Fi_load_61 rfl ?_
  refine T_lconst (v := 1) d_Fi_load_62 (by decide) ?_
  refine T_iload d_Fi_load_63 rfl ?_
  refine T_lshl d_Fi_load_65 ?_
  refine T_lconst (v := 1) d_Fi_load_66 (by decide) ?_
  refine T_lsub d_Fi_load_67 ?_
  refine T_land d_Fi_load_68 ?_
  refine T_topl (fun m2 em2 => ?_)
  have tm2 : m2.toInt = u9.toInt % 67108864 := by
    rw [em2, show (1 : Int64) <<< ((nI 26).toInt64 &&& 63) - 1 = 67108863 from rfl]; exact nn_and _ 26 _ (by decide) (by decide)
  clear em2
  refine X_last (n := 10) (k := 2) d_Fi_load_69 kto (by decide) (by decide) hl ?_
  refine T_lload_n d_Fi_load_70 rfl ?_
  refine T_iload d_Fi_load_71 rfl ?_
  refine T_lshr d_Fi_load_73 ?_
  refine T_topl (fun q3 eq3 => ?_)
  have tq3 : q3.toInt = u9.toInt / 67108864 := by
    rw [eq3]; exact nn_shr s26_ rg9 (by decide)
  clear eq3
  have rq3 : 0 ≤ q3.toInt ∧ q3.toInt < 2 ^ 3 := rl2 26 3 tq3 rg9
  refine T_lstore_n (L' := [(3, .long q3), (5, .int (nI 29)), (6, .int (nI (at0 + 10))), (8, .int (nI 26)), (7, .int (nI 2)), (0, .ref to), (1, .ref fr), (2, .int (nI at0))]) d_Fi_load_74 (by decide) rfl ?_
  refine T_iload d_Fi_load_75 rfl ?_
  refine T_iload d_Fi_load_77 rfl ?_
  refine T_isub d_Fi_load_79 ?_
  refine T_eq (st' := [.int (nI 3)]) rfl rfl rfl rfl ?_
  refine T_istore (L' := [(5, .int (nI 3)), (3, .long q3), (6, .int (nI (at0 + 10))), (8, .int (nI 26)), (7, .int (nI 2)), (0, .ref to), (1, .ref fr), (2, .int (nI at0))]) d_Fi_load_80 (by decide) rfl ?_
  refine T_iinc (x := nI 2) (L' := [(7, .int (nI 3)), (5, .int (nI 3)), (3, .long q3), (6, .int (nI (at0 + 10))), (8, .int (nI 26)), (0, .ref to), (1, .ref fr), (2, .int (nI at0))]) d_Fi_load_82 (by decide) rfl rfl ?_
  refine T_goto (tgt := 11) d_Fi_load_85 rfl ?_
  refine T_iload d_Fi_load_11 rfl ?_
  refine T_bipush (v := nI 10) d_Fi_load_13 (by decide) ?_
  refine T_icmp_ge d_Fi_load_15 (tgt := 88) rfl (fun c => absurd c (by decide)) (fun _ => ?_)
  refine T_bipush (v := nI 26) d_Fi_load_18 (by decide) ?_
  refine T_iload d_Fi_load_20 rfl ?_
  refine T_iconst (v := nI 1) d_Fi_load_22 (by decide) ?_
  refine T_iand d_Fi_load_23 ?_
  refine T_isub d_Fi_load_24 ?_
  refine T_eq (st' := [.int (nI 25)]) rfl rfl rfl rfl ?_
  refine T_istore (L' := [(8, .int (nI 25)), (7, .int (nI 3)), (5, .int (nI 3)), (3, .long q3), (6, .int (nI (at0 + 10))), (0, .ref to), (1, .ref fr), (2, .int (nI at0))]) d_Fi_load_25 (by decide) rfl ?_
  refine T_iload d_Fi_load_27 rfl ?_
  refine T_iload d_Fi_load_29 rfl ?_
  refine T_icmp_ge d_Fi_load_31 (tgt := 58) rfl (fun c => absurd c (by decide)) (fun _ => ?_)
  refine T_lload_n d_Fi_load_34 rfl ?_
  refine T_aload_n (v := .ref fr) d_Fi_load_35 rfl (Or.inr ⟨_, rfl⟩) ?_
  refine T_iload d_Fi_load_36 rfl ?_
  refine T_baload d_Fi_load_38 (X_ne hfr hne) (hv 10 (by decide)) (fun _ => ?_)
  rw [hcl 10 (by decide)]
  refine T_i2l d_Fi_load_39 ?_
  refine T_ldc2 d_Fi_load_40 kJ_Fi_41 ?_
  refine T_land d_Fi_load_43 ?_
  refine T_iload d_Fi_load_44 rfl ?_
  refine T_lshl d_Fi_load_46 ?_
  refine T_lor d_Fi_load_47 ?_
  have st10 := ldstep q3 (f (at0 + 10)) 3 (by decide) rq3.1 rq3.2
  refine T_topl (fun u10 eu10 => ?_)
  rw [← eu10] at st10
  clear eu10
  have by10 : 0 ≤ (f (at0 + 10)).toInt % 256 ∧ (f (at0 + 10)).toInt % 256 < 256 := ⟨Int.emod_nonneg _ (by decide), Int.emod_lt_of_pos _ (by decide)⟩
  have rg10 : 0 ≤ u10.toInt ∧ u10.toInt < 2 ^ 11 := rl1 3 st10 rq3 by10
  refine T_lstore_n (L' := [(3, .long u10), (8, .int (nI 25)), (7, .int (nI 3)), (5, .int (nI 3)), (6, .int (nI (at0 + 10))), (0, .ref to), (1, .ref fr), (2, .int (nI at0))]) d_Fi_load_48 (by decide) rfl ?_
  refine T_iinc (x := nI (at0 + 10)) (L' := [(6, .int (nI (at0 + 11))), (3, .long u10), (8, .int (nI 25)), (7, .int (nI 3)), (5, .int (nI 3)), (0, .ref to), (1, .ref fr), (2, .int (nI at0))]) d_Fi_load_49 (by decide) rfl (by rw [show Int32.ofInt 1 = nI 1 from rfl, nI_add]; rfl) ?_
  refine T_iinc (x := nI 3) (L' := [(5, .int (nI 11)), (6, .int (nI (at0 + 11))), (3, .long u10), (8, .int (nI 25)), (7, .int (nI 3)), (0, .ref to), (1, .ref fr), (2, .int (nI at0))]) d_Fi_load_52 (by decide) rfl rfl ?_
  refine T_goto (tgt := 27) d_Fi_load_55 rfl ?_
  refine T_iload d_Fi_load_27 rfl ?_
  refine T_iload d_Fi_load_29 rfl ?_
  refine T_icmp_ge d_Fi_load_31 (tgt := 58) rfl (fun c => absurd c (by decide)) (fun _ => ?_)
  refine T_lload_n d_Fi_load_34 rfl ?_
  refine T_aload_n (v := .ref fr) d_Fi_load_35 rfl (Or.inr ⟨_, rfl⟩) ?_
  refine T_iload d_Fi_load_36 rfl ?_
  refine T_baload d_Fi_load_38 (X_ne hfr hne) (hv 11 (by decide)) (fun _ => ?_)
  rw [hcl 11 (by decide)]
  refine T_i2l d_Fi_load_39 ?_
  refine T_ldc2 d_Fi_load_40 kJ_Fi_41 ?_
  refine T_land d_Fi_load_43 ?_
  refine T_iload d_Fi_load_44 rfl ?_
  refine T_lshl d_Fi_load_46 ?_
  refine T_lor d_Fi_load_47 ?_
  have st11 := ldstep u10 (f (at0 + 11)) 11 (by decide) rg10.1 rg10.2
  refine T_topl (fun u11 eu11 => ?_)
  rw [← eu11] at st11
  clear eu11
  have by11 : 0 ≤ (f (at0 + 11)).toInt % 256 ∧ (f (at0 + 11)).toInt % 256 < 256 := ⟨Int.emod_nonneg _ (by decide), Int.emod_lt_of_pos _ (by decide)⟩
  have rg11 : 0 ≤ u11.toInt ∧ u11.toInt < 2 ^ 19 := rl1 11 st11 rg10 by11
  refine T_lstore_n (L' := [(3, .long u11), (5, .int (nI 11)), (6, .int (nI (at0 + 11))), (8, .int (nI 25)), (7, .int (nI 3)), (0, .ref to), (1, .ref fr), (2, .int (nI at0))]) d_Fi_load_48 (by decide) rfl ?_
  refine T_iinc (x := nI (at0 + 11)) (L' := [(6, .int (nI (at0 + 12))), (3, .long u11), (5, .int (nI 11)), (8, .int (nI 25)), (7, .int (nI 3)), (0, .ref to), (1, .ref fr), (2, .int (nI at0))]) d_Fi_load_49 (by decide) rfl (by rw [show Int32.ofInt 1 = nI 1 from rfl, nI_add]; rfl) ?_
  refine T_iinc (x := nI 11) (L' := [(5, .int (nI 19)), (6, .int (nI (at0 + 12))), (3, .long u11), (8, .int (nI 25)), (7, .int (nI 3)), (0, .ref to), (1, .ref fr), (2, .int (nI at0))]) d_Fi_load_52 (by decide) rfl rfl ?_
  refine T_goto (tgt := 27) d_Fi_load_55 rfl ?_
  refine T_iload d_Fi_load_27 rfl ?_
  refine T_iload d_Fi_load_29 rfl ?_
  refine T_icmp_ge d_Fi_load_31 (tgt := 58) rfl (fun c => absurd c (by decide)) (fun _ => ?_)
  refine T_lload_n d_Fi_load_34 rfl ?_
  refine T_aload_n (v := .ref fr) d_Fi_load_35 rfl (Or.inr ⟨_, rfl⟩) ?_
  refine T_iload d_Fi_load_36 rfl ?_
  refine T_baload d_Fi_load_38 (X_ne hfr hne) (hv 12 (by decide)) (fun _ => ?_)
  rw [hcl 12 (by decide)]
  refine T_i2l d_Fi_load_39 ?_
  refine T_ldc2 d_Fi_load_40 kJ_Fi_41 ?_
  refine T_land d_Fi_load_43 ?_
  refine T_iload d_Fi_load_44 rfl ?_
  refine T_lshl d_Fi_load_46 ?_
  refine T_lor d_Fi_load_47 ?_
  have st12 := ldstep u11 (f (at0 + 12)) 19 (by decide) rg11.1 rg11.2
  refine T_topl (fun u12 eu12 => ?_)
  rw [← eu12] at st12
  clear eu12
  have by12 : 0 ≤ (f (at0 + 12)).toInt % 256 ∧ (f (at0 + 12)).toInt % 256 < 256 := ⟨Int.emod_nonneg _ (by decide), Int.emod_lt_of_pos _ (by decide)⟩
  have rg12 : 0 ≤ u12.toInt ∧ u12.toInt < 2 ^ 27 := rl1 19 st12 rg11 by12
  refine T_lstore_n (L' := [(3, .long u12), (5, .int (nI 19)), (6, .int (nI (at0 + 12))), (8, .int (nI 25)), (7, .int (nI 3)), (0, .ref to), (1, .ref fr), (2, .int (nI at0))]) d_Fi_load_48 (by decide) rfl ?_
  refine T_iinc (x := nI (at0 + 12)) (L' := [(6, .int (nI (at0 + 13))), (3, .long u12), (5, .int (nI 19)), (8, .int (nI 25)), (7, .int (nI 3)), (0, .ref to), (1, .ref fr), (2, .int (nI at0))]) d_Fi_load_49 (by decide) rfl (by rw [show Int32.ofInt 1 = nI 1 from rfl, nI_add]; rfl) ?_
  refine T_iinc (x := nI 19) (L' := [(5, .int (nI 27)), (6, .int (nI (at0 + 13))), (3, .long u12), (8, .int (nI 25)), (7, .int (nI 3)), (0, .ref to), (1, .ref fr), (2, .int (nI at0))]) d_Fi_load_52 (by decide) rfl rfl ?_
  refine T_goto (tgt := 27) d_Fi_load_55 rfl ?_
  refine T_iload d_Fi_load_27 rfl ?_
  refine T_iload d_Fi_load_29 rfl ?_
  refine T_icmp_ge d_Fi_load_31 (tgt := 58) rfl (fun _ => ?_) (fun c => absurd (by decide) c)
  refine T_aload_n (v := .ref to) d_Fi_load_58 rfl (Or.inr ⟨_, rfl⟩) ?_
  refine T_iload d_Fi_load_59 rfl ?_
  refine T_lload_n d_Fi_load_61 rfl ?_
  refine T_lconst (v := 1) d_Fi_load_62 (by decide) ?_
  refine T_iload d_Fi_load_63 rfl ?_
  refine T_lshl d_Fi_load_65 ?_
  refine T_lconst (v := 1) d_Fi_load_66 (by decide) ?_
  refine T_lsub d_Fi_load_67 ?_
  refine T_land d_Fi_load_68 ?_
  refine T_topl (fun m3 em3 => ?_)
  have tm3 : m3.toInt = u12.toInt % 33554432 := by
    rw [em3, show (1 : Int64) <<< ((nI 25).toInt64 &&& 63) - 1 = 33554431 from rfl]; exact nn_and _ 25 _ (by decide) (by decide)
  clear em3
  refine X_last (n := 10) (k := 3) d_Fi_load_69 kto (by decide) (by decide) hl ?_
  refine T_lload_n d_Fi_load_70 rfl ?_
  refine T_iload d_Fi_load_71 rfl ?_
  refine T_lshr d_Fi_load_73 ?_
  refine T_topl (fun q4 eq4 => ?_)
  have tq4 : q4.toInt = u12.toInt / 33554432 := by
    rw [eq4]; exact nn_shr s25_ rg12 (by decide)
  clear eq4
  have rq4 : 0 ≤ q4.toInt ∧ q4.toInt < 2 ^ 2 := rl2 25 2 tq4 rg12
  refine T_lstore_n (L' := [(3, .long q4), (5, .int (nI 27)), (6, .int (nI (at0 + 13))), (8, .int (nI 25)), (7, .int (nI 3)), (0, .ref to), (1, .ref fr), (2, .int (nI at0))]) d_Fi_load_74 (by decide) rfl ?_
  refine T_iload d_Fi_load_75 rfl ?_
  refine T_iload d_Fi_load_77 rfl ?_
  refine T_isub d_Fi_load_79 ?_
  refine T_eq (st' := [.int (nI 2)]) rfl rfl rfl rfl ?_
  refine T_istore (L' := [(5, .int (nI 2)), (3, .long q4), (6, .int (nI (at0 + 13))), (8, .int (nI 25)), (7, .int (nI 3)), (0, .ref to), (1, .ref fr), (2, .int (nI at0))]) d_Fi_load_80 (by decide) rfl ?_
  refine T_iinc (x := nI 3) (L' := [(7, .int (nI 4)), (5, .int (nI 2)), (3, .long q4), (6, .int (nI (at0 + 13))), (8, .int (nI 25)), (0, .ref to), (1, .ref fr), (2, .int (nI at0))]) d_Fi_load_82 (by decide) rfl rfl ?_
  refine T_goto (tgt := 11) d_Fi_load_85 rfl ?_
  refine T_iload d_Fi_load_11 rfl ?_
  refine T_bipush (v := nI 10) d_Fi_load_13 (by decide) ?_
  refine T_icmp_ge d_Fi_load_15 (tgt := 88) rfl (fun c => absurd c (by decide)) (fun _ => ?_)
  refine T_bipush (v := nI 26) d_Fi_load_18 (by decide) ?_
  refine T_iload d_Fi_load_20 rfl ?_
  refine T_iconst (v := nI 1) d_Fi_load_22 (by decide) ?_
  refine T_iand d_Fi_load_23 ?_
  refine T_isub d_Fi_load_24 ?_
  refine T_eq (st' := [.int (nI 26)]) rfl rfl rfl rfl ?_
  refine T_istore (L' := [(8, .int (nI 26)), (7, .int (nI 4)), (5, .int (nI 2)), (3, .long q4), (6, .int (nI (at0 + 13))), (0, .ref to), (1, .ref fr), (2, .int (nI at0))]) d_Fi_load_25 (by decide) rfl ?_
  refine T_iload d_Fi_load_27 rfl ?_
  refine T_iload d_Fi_load_29 rfl ?_
  refine T_icmp_ge d_Fi_load_31 (tgt := 58) rfl (fun c => absurd c (by decide)) (fun _ => ?_)
  refine T_lload_n d_Fi_load_34 rfl ?_
  refine T_aload_n (v := .ref fr) d_Fi_load_35 rfl (Or.inr ⟨_, rfl⟩) ?_
  refine T_iload d_Fi_load_36 rfl ?_
  refine T_baload d_Fi_load_38 (X_ne hfr hne) (hv 13 (by decide)) (fun _ => ?_)
  rw [hcl 13 (by decide)]
  refine T_i2l d_Fi_load_39 ?_
  refine T_ldc2 d_Fi_load_40 kJ_Fi_41 ?_
  refine T_land d_Fi_load_43 ?_
  refine T_iload d_Fi_load_44 rfl ?_
  refine T_lshl d_Fi_load_46 ?_
  refine T_lor d_Fi_load_47 ?_
  have st13 := ldstep q4 (f (at0 + 13)) 2 (by decide) rq4.1 rq4.2
  refine T_topl (fun u13 eu13 => ?_)
  rw [← eu13] at st13
  clear eu13
  have by13 : 0 ≤ (f (at0 + 13)).toInt % 256 ∧ (f (at0 + 13)).toInt % 256 < 256 := ⟨Int.emod_nonneg _ (by decide), Int.emod_lt_of_pos _ (by decide)⟩
  have rg13 : 0 ≤ u13.toInt ∧ u13.toInt < 2 ^ 10 := rl1 2 st13 rq4 by13
  refine T_lstore_n (L' := [(3, .long u13), (8, .int (nI 26)), (7, .int (nI 4)), (5, .int (nI 2)), (6, .int (nI (at0 + 13))), (0, .ref to), (1, .ref fr), (2, .int (nI at0))]) d_Fi_load_48 (by decide) rfl ?_
  refine T_iinc (x := nI (at0 + 13)) (L' := [(6, .int (nI (at0 + 14))), (3, .long u13), (8, .int (nI 26)), (7, .int (nI 4)), (5, .int (nI 2)), (0, .ref to), (1, .ref fr), (2, .int (nI at0))]) d_Fi_load_49 (by decide) rfl (by rw [show Int32.ofInt 1 = nI 1 from rfl, nI_add]; rfl) ?_
  refine T_iinc (x := nI 2) (L' := [(5, .int (nI 10)), (6, .int (nI (at0 + 14))), (3, .long u13), (8, .int (nI 26)), (7, .int (nI 4)), (0, .ref to), (1, .ref fr), (2, .int (nI at0))]) d_Fi_load_52 (by decide) rfl rfl ?_
  refine T_goto (tgt := 27) d_Fi_load_55 rfl ?_
  refine T_iload d_Fi_load_27 rfl ?_
  refine T_iload d_Fi_load_29 rfl ?_
  refine T_icmp_ge d_Fi_load_31 (tgt := 58) rfl (fun c => absurd c (by decide)) (fun _ => ?_)
  refine T_lload_n d_Fi_load_34 rfl ?_
  refine T_aload_n (v := .ref fr) d_Fi_load_35 rfl (Or.inr ⟨_, rfl⟩) ?_
  refine T_iload d_Fi_load_36 rfl ?_
  refine T_baload d_Fi_load_38 (X_ne hfr hne) (hv 14 (by decide)) (fun _ => ?_)
  rw [hcl 14 (by decide)]
  refine T_i2l d_Fi_load_39 ?_
  refine T_ldc2 d_Fi_load_40 kJ_Fi_41 ?_
  refine T_land d_Fi_load_43 ?_
  refine T_iload d_Fi_load_44 rfl ?_
  refine T_lshl d_Fi_load_46 ?_
  refine T_lor d_Fi_load_47 ?_
  have st14 := ldstep u13 (f (at0 + 14)) 10 (by decide) rg13.1 rg13.2
  refine T_topl (fun u14 eu14 => ?_)
  rw [← eu14] at st14
  clear eu14
  have by14 : 0 ≤ (f (at0 + 14)).toInt % 256 ∧ (f (at0 + 14)).toInt % 256 < 256 := ⟨Int.emod_nonneg _ (by decide), Int.emod_lt_of_pos _ (by decide)⟩
  have rg14 : 0 ≤ u14.toInt ∧ u14.toInt < 2 ^ 18 := rl1 10 st14 rg13 by14
  refine T_lstore_n (L' := [(3, .long u14), (5, .int (nI 10)), (6, .int (nI (at0 + 14))), (8, .int (nI 26)), (7, .int (nI 4)), (0, .ref to), (1, .ref fr), (2, .int (nI at0))]) d_Fi_load_48 (by decide) rfl ?_
  refine T_iinc (x := nI (at0 + 14)) (L' := [(6, .int (nI (at0 + 15))), (3, .long u14), (5, .int (nI 10)), (8, .int (nI 26)), (7, .int (nI 4)), (0, .ref to), (1, .ref fr), (2, .int (nI at0))]) d_Fi_load_49 (by decide) rfl (by rw [show Int32.ofInt 1 = nI 1 from rfl, nI_add]; rfl) ?_
  refine T_iinc (x := nI 10) (L' := [(5, .int (nI 18)), (6, .int (nI (at0 + 15))), (3, .long u14), (8, .int (nI 26)), (7, .int (nI 4)), (0, .ref to), (1, .ref fr), (2, .int (nI at0))]) d_Fi_load_52 (by decide) rfl rfl ?_
  refine T_goto (tgt := 27) d_Fi_load_55 rfl ?_
  refine T_iload d_Fi_load_27 rfl ?_
  refine T_iload d_Fi_load_29 rfl ?_
  refine T_icmp_ge d_Fi_load_31 (tgt := 58) rfl (fun c => absurd c (by decide)) (fun _ => ?_)
  refine T_lload_n d_Fi_load_34 rfl ?_
  refine T_aload_n (v := .ref fr) d_Fi_load_35 rfl (Or.inr ⟨_, rfl⟩) ?_
  refine T_iload d_Fi_load_36 rfl ?_
  refine T_baload d_Fi_load_38 (X_ne hfr hne) (hv 15 (by decide)) (fun _ => ?_)
  rw [hcl 15 (by decide)]
  refine T_i2l d_Fi_load_39 ?_
  refine T_ldc2 d_Fi_load_40 kJ_Fi_41 ?_
  refine T_land d_Fi_load_43 ?_
  refine T_iload d_Fi_load_44 rfl ?_
  refine T_lshl d_Fi_load_46 ?_
  refine T_lor d_Fi_load_47 ?_
  have st15 := ldstep u14 (f (at0 + 15)) 18 (by decide) rg14.1 rg14.2
  refine T_topl (fun u15 eu15 => ?_)
  rw [← eu15] at st15
  clear eu15
  have by15 : 0 ≤ (f (at0 + 15)).toInt % 256 ∧ (f (at0 + 15)).toInt % 256 < 256 := ⟨Int.emod_nonneg _ (by decide), Int.emod_lt_of_pos _ (by decide)⟩
  have rg15 : 0 ≤ u15.toInt ∧ u15.toInt < 2 ^ 26 := rl1 18 st15 rg14 by15
  refine T_lstore_n (L' := [(3, .long u15), (5, .int (nI 18)), (6, .int (nI (at0 + 15))), (8, .int (nI 26)), (7, .int (nI 4)), (0, .ref to), (1, .ref fr), (2, .int (nI at0))]) d_Fi_load_48 (by decide) rfl ?_
  refine T_iinc (x := nI (at0 + 15)) (L' := [(6, .int (nI (at0 + 16))), (3, .long u15), (5, .int (nI 18)), (8, .int (nI 26)), (7, .int (nI 4)), (0, .ref to), (1, .ref fr), (2, .int (nI at0))]) d_Fi_load_49 (by decide) rfl (by rw [show Int32.ofInt 1 = nI 1 from rfl, nI_add]; rfl) ?_
  refine T_iinc (x := nI 18) (L' := [(5, .int (nI 26)), (6, .int (nI (at0 + 16))), (3, .long u15), (8, .int (nI 26)), (7, .int (nI 4)), (0, .ref to), (1, .ref fr), (2, .int (nI at0))]) d_Fi_load_52 (by decide) rfl rfl ?_
  refine T_goto (tgt := 27) d_Fi_load_55 rfl ?_
  refine T_iload d_Fi_load_27 rfl ?_
  refine T_iload d_Fi_load_29 rfl ?_
  refine T_icmp_ge d_Fi_load_31 (tgt := 58) rfl (fun _ => ?_) (fun c => absurd (by decide) c)
  refine T_aload_n (v := .ref to) d_Fi_load_58 rfl (Or.inr ⟨_, rfl⟩) ?_
  refine T_iload d_Fi_load_59 rfl ?_
  refine T_lload_n d_Fi_load_61 rfl ?_
  refine T_lconst (v := 1) d_Fi_load_62 (by decide) ?_
  refine T_iload d_Fi_load_63 rfl ?_
  refine T_lshl d_Fi_load_65 ?_
  refine T_lconst (v := 1) d_Fi_load_66 (by decide) ?_
  refine T_lsub d_Fi_load_67 ?_
  refine T_land d_Fi_load_68 ?_
  refine T_topl (fun m4 em4 => ?_)
  have tm4 : m4.toInt = u15.toInt % 67108864 := by
    rw [em4, show (1 : Int64) <<< ((nI 26).toInt64 &&& 63) - 1 = 67108863 from rfl]; exact nn_and _ 26 _ (by decide) (by decide)
  clear em4
  refine X_last (n := 10) (k := 4) d_Fi_load_69 kto (by decide) (by decide) hl ?_
  refine T_lload_n d_Fi_load_70 rfl ?_
  refine T_iload d_Fi_load_71 rfl ?_
  refine T_lshr d_Fi_load_73 ?_
  refine T_topl (fun q5 eq5 => ?_)
  have tq5 : q5.toInt = u15.toInt / 67108864 := by
    rw [eq5]; exact nn_shr s26_ rg15 (by decide)
  clear eq5
  have rq5 : 0 ≤ q5.toInt ∧ q5.toInt < 2 ^ 0 := rl2 26 0 tq5 rg15
  refine T_lstore_n (L' := [(3, .long q5), (5, .int (nI 26)), (6, .int (nI (at0 + 16))), (8, .int (nI 26)), (7, .int (nI 4)), (0, .ref to), (1, .ref fr), (2, .int (nI at0))]) d_Fi_load_74 (by decide) rfl ?_
  refine T_iload d_Fi_load_75 rfl ?_
  refine T_iload d_Fi_load_77 rfl ?_
  refine T_isub d_Fi_load_79 ?_
  refine T_eq (st' := [.int (nI 0)]) rfl rfl rfl rfl ?_
  refine T_istore (L' := [(5, .int (nI 0)), (3, .long q5), (6, .int (nI (at0 + 16))), (8, .int (nI 26)), (7, .int (nI 4)), (0, .ref to), (1, .ref fr), (2, .int (nI at0))]) d_Fi_load_80 (by decide) rfl ?_
  refine T_iinc (x := nI 4) (L' := [(7, .int (nI 5)), (5, .int (nI 0)), (3, .long q5), (6, .int (nI (at0 + 16))), (8, .int (nI 26)), (0, .ref to), (1, .ref fr), (2, .int (nI at0))]) d_Fi_load_82 (by decide) rfl rfl ?_
  refine T_goto (tgt := 11) d_Fi_load_85 rfl ?_
  refine T_iload d_Fi_load_11 rfl ?_
  refine T_bipush (v := nI 10) d_Fi_load_13 (by decide) ?_
  refine T_icmp_ge d_Fi_load_15 (tgt := 88) rfl (fun c => absurd c (by decide)) (fun _ => ?_)
  refine T_bipush (v := nI 26) d_Fi_load_18 (by decide) ?_
  refine T_iload d_Fi_load_20 rfl ?_
  refine T_iconst (v := nI 1) d_Fi_load_22 (by decide) ?_
  refine T_iand d_Fi_load_23 ?_
  refine T_isub d_Fi_load_24 ?_
  refine T_eq (st' := [.int (nI 25)]) rfl rfl rfl rfl ?_
  refine T_istore (L' := [(8, .int (nI 25)), (7, .int (nI 5)), (5, .int (nI 0)), (3, .long q5), (6, .int (nI (at0 + 16))), (0, .ref to), (1, .ref fr), (2, .int (nI at0))]) d_Fi_load_25 (by decide) rfl ?_
  refine T_iload d_Fi_load_27 rfl ?_
  refine T_iload d_Fi_load_29 rfl ?_
  refine T_icmp_ge d_Fi_load_31 (tgt := 58) rfl (fun c => absurd c (by decide)) (fun _ => ?_)
  refine T_lload_n d_Fi_load_34 rfl ?_
  refine T_aload_n (v := .ref fr) d_Fi_load_35 rfl (Or.inr ⟨_, rfl⟩) ?_
  refine T_iload d_Fi_load_36 rfl ?_
  refine T_baload d_Fi_load_38 (X_ne hfr hne) (hv 16 (by decide)) (fun _ => ?_)
  rw [hcl 16 (by decide)]
  refine T_i2l d_Fi_load_39 ?_
  refine T_ldc2 d_Fi_load_40 kJ_Fi_41 ?_
  refine T_land d_Fi_load_43 ?_
  refine T_iload d_Fi_load_44 rfl ?_
  refine T_lshl d_Fi_load_46 ?_
  refine T_lor d_Fi_load_47 ?_
  have st16 := ldstep q5 (f (at0 + 16)) 0 (by decide) rq5.1 rq5.2
  refine T_topl (fun u16 eu16 => ?_)
  rw [← eu16] at st16
  clear eu16
  have by16 : 0 ≤ (f (at0 + 16)).toInt % 256 ∧ (f (at0 + 16)).toInt % 256 < 256 := ⟨Int.emod_nonneg _ (by decide), Int.emod_lt_of_pos _ (by decide)⟩
  have rg16 : 0 ≤ u16.toInt ∧ u16.toInt < 2 ^ 8 := rl1 0 st16 rq5 by16
  refine T_lstore_n (L' := [(3, .long u16), (8, .int (nI 25)), (7, .int (nI 5)), (5, .int (nI 0)), (6, .int (nI (at0 + 16))), (0, .ref to), (1, .ref fr), (2, .int (nI at0))]) d_Fi_load_48 (by decide) rfl ?_
  refine T_iinc (x := nI (at0 + 16)) (L' := [(6, .int (nI (at0 + 17))), (3, .long u16), (8, .int (nI 25)), (7, .int (nI 5)), (5, .int (nI 0)), (0, .ref to), (1, .ref fr), (2, .int (nI at0))]) d_Fi_load_49 (by decide) rfl (by rw [show Int32.ofInt 1 = nI 1 from rfl, nI_add]; rfl) ?_
  refine T_iinc (x := nI 0) (L' := [(5, .int (nI 8)), (6, .int (nI (at0 + 17))), (3, .long u16), (8, .int (nI 25)), (7, .int (nI 5)), (0, .ref to), (1, .ref fr), (2, .int (nI at0))]) d_Fi_load_52 (by decide) rfl rfl ?_
  refine T_goto (tgt := 27) d_Fi_load_55 rfl ?_
  refine T_iload d_Fi_load_27 rfl ?_
  refine T_iload d_Fi_load_29 rfl ?_
  refine T_icmp_ge d_Fi_load_31 (tgt := 58) rfl (fun c => absurd c (by decide)) (fun _ => ?_)
  refine T_lload_n d_Fi_load_34 rfl ?_
  refine T_aload_n (v := .ref fr) d_Fi_load_35 rfl (Or.inr ⟨_, rfl⟩) ?_
  refine T_iload d_Fi_load_36 rfl ?_
  refine T_baload d_Fi_load_38 (X_ne hfr hne) (hv 17 (by decide)) (fun _ => ?_)
  rw [hcl 17 (by decide)]
  refine T_i2l d_Fi_load_39 ?_
  refine T_ldc2 d_Fi_load_40 kJ_Fi_41 ?_
  refine T_land d_Fi_load_43 ?_
  refine T_iload d_Fi_load_44 rfl ?_
  refine T_lshl d_Fi_load_46 ?_
  refine T_lor d_Fi_load_47 ?_
  have st17 := ldstep u16 (f (at0 + 17)) 8 (by decide) rg16.1 rg16.2
  refine T_topl (fun u17 eu17 => ?_)
  rw [← eu17] at st17
  clear eu17
  have by17 : 0 ≤ (f (at0 + 17)).toInt % 256 ∧ (f (at0 + 17)).toInt % 256 < 256 := ⟨Int.emod_nonneg _ (by decide), Int.emod_lt_of_pos _ (by decide)⟩
  have rg17 : 0 ≤ u17.toInt ∧ u17.toInt < 2 ^ 16 := rl1 8 st17 rg16 by17
  refine T_lstore_n (L' := [(3, .long u17), (5, .int (nI 8)), (6, .int (nI (at0 + 17))), (8, .int (nI 25)), (7, .int (nI 5)), (0, .ref to), (1, .ref fr), (2, .int (nI at0))]) d_Fi_load_48 (by decide) rfl ?_
  refine T_iinc (x := nI (at0 + 17)) (L' := [(6, .int (nI (at0 + 18))), (3, .long u17), (5, .int (nI 8)), (8, .int (nI 25)), (7, .int (nI 5)), (0, .ref to), (1, .ref fr), (2, .int (nI at0))]) d_Fi_load_49 (by decide) rfl (by rw [show Int32.ofInt 1 = nI 1 from rfl, nI_add]; rfl) ?_
  refine T_iinc (x := nI 8) (L' := [(5, .int (nI 16)), (6, .int (nI (at0 + 18))), (3, .long u17), (8, .int (nI 25)), (7, .int (nI 5)), (0, .ref to), (1, .ref fr), (2, .int (nI at0))]) d_Fi_load_52 (by decide) rfl rfl ?_
  refine T_goto (tgt := 27) d_Fi_load_55 rfl ?_
  refine T_iload d_Fi_load_27 rfl ?_
  refine T_iload d_Fi_load_29 rfl ?_
  refine T_icmp_ge d_Fi_load_31 (tgt := 58) rfl (fun c => absurd c (by decide)) (fun _ => ?_)
  refine T_lload_n d_Fi_load_34 rfl ?_
  refine T_aload_n (v := .ref fr) d_Fi_load_35 rfl (Or.inr ⟨_, rfl⟩) ?_
  refine T_iload d_Fi_load_36 rfl ?_
  refine T_baload d_Fi_load_38 (X_ne hfr hne) (hv 18 (by decide)) (fun _ => ?_)
  rw [hcl 18 (by decide)]
  refine T_i2l d_Fi_load_39 ?_
  refine T_ldc2 d_Fi_load_40 kJ_Fi_41 ?_
  refine T_land d_Fi_load_43 ?_
  refine T_iload d_Fi_load_44 rfl ?_
  refine T_lshl d_Fi_load_46 ?_
  refine T_lor d_Fi_load_47 ?_
  have st18 := ldstep u17 (f (at0 + 18)) 16 (by decide) rg17.1 rg17.2
  refine T_topl (fun u18 eu18 => ?_)
  rw [← eu18] at st18
  clear eu18
  have by18 : 0 ≤ (f (at0 + 18)).toInt % 256 ∧ (f (at0 + 18)).toInt % 256 < 256 := ⟨Int.emod_nonneg _ (by decide), Int.emod_lt_of_pos _ (by decide)⟩
  have rg18 : 0 ≤ u18.toInt ∧ u18.toInt < 2 ^ 24 := rl1 16 st18 rg17 by18
  refine T_lstore_n (L' := [(3, .long u18), (5, .int (nI 16)), (6, .int (nI (at0 + 18))), (8, .int (nI 25)), (7, .int (nI 5)), (0, .ref to), (1, .ref fr), (2, .int (nI at0))]) d_Fi_load_48 (by decide) rfl ?_
  refine T_iinc (x := nI (at0 + 18)) (L' := [(6, .int (nI (at0 + 19))), (3, .long u18), (5, .int (nI 16)), (8, .int (nI 25)), (7, .int (nI 5)), (0, .ref to), (1, .ref fr), (2, .int (nI at0))]) d_Fi_load_49 (by decide) rfl (by rw [show Int32.ofInt 1 = nI 1 from rfl, nI_add]; rfl) ?_
  refine T_iinc (x := nI 16) (L' := [(5, .int (nI 24)), (6, .int (nI (at0 + 19))), (3, .long u18), (8, .int (nI 25)), (7, .int (nI 5)), (0, .ref to), (1, .ref fr), (2, .int (nI at0))]) d_Fi_load_52 (by decide) rfl rfl ?_
  refine T_goto (tgt := 27) d_Fi_load_55 rfl ?_
  refine T_iload d_Fi_load_27 rfl ?_
  refine T_iload d_Fi_load_29 rfl ?_
  refine T_icmp_ge d_Fi_load_31 (tgt := 58) rfl (fun c => absurd c (by decide)) (fun _ => ?_)
  refine T_lload_n d_Fi_load_34 rfl ?_
  refine T_aload_n (v := .ref fr) d_Fi_load_35 rfl (Or.inr ⟨_, rfl⟩) ?_
  refine T_iload d_Fi_load_36 rfl ?_
  refine T_baload d_Fi_load_38 (X_ne hfr hne) (hv 19 (by decide)) (fun _ => ?_)
  rw [hcl 19 (by decide)]
  refine T_i2l d_Fi_load_39 ?_
  refine T_ldc2 d_Fi_load_40 kJ_Fi_41 ?_
  refine T_land d_Fi_load_43 ?_
  refine T_iload d_Fi_load_44 rfl ?_
  refine T_lshl d_Fi_load_46 ?_
  refine T_lor d_Fi_load_47 ?_
  have st19 := ldstep u18 (f (at0 + 19)) 24 (by decide) rg18.1 rg18.2
  refine T_topl (fun u19 eu19 => ?_)
  rw [← eu19] at st19
  clear eu19
  have by19 : 0 ≤ (f (at0 + 19)).toInt % 256 ∧ (f (at0 + 19)).toInt % 256 < 256 := ⟨Int.emod_nonneg _ (by decide), Int.emod_lt_of_pos _ (by decide)⟩
  have rg19 : 0 ≤ u19.toInt ∧ u19.toInt < 2 ^ 32 := rl1 24 st19 rg18 by19
  refine T_lstore_n (L' := [(3, .long u19), (5, .int (nI 24)), (6, .int (nI (at0 + 19))), (8, .int (nI 25)), (7, .int (nI 5)), (0, .ref to), (1, .ref fr), (2, .int (nI at0))]) d_Fi_load_48 (by decide) rfl ?_
  refine T_iinc (x := nI (at0 + 19)) (L' := [(6, .int (nI (at0 + 20))), (3, .long u19), (5, .int (nI 24)), (8, .int (nI 25)), (7, .int (nI 5)), (0, .ref to), (1, .ref fr), (2, .int (nI at0))]) d_Fi_load_49 (by decide) rfl (by rw [show Int32.ofInt 1 = nI 1 from rfl, nI_add]; rfl) ?_
  refine T_iinc (x := nI 24) (L' := [(5, .int (nI 32)), (6, .int (nI (at0 + 20))), (3, .long u19), (8, .int (nI 25)), (7, .int (nI 5)), (0, .ref to), (1, .ref fr), (2, .int (nI at0))]) d_Fi_load_52 (by decide) rfl rfl ?_
  refine T_goto (tgt := 27) d_Fi_load_55 rfl ?_
  refine T_iload d_Fi_load_27 rfl ?_
  refine T_iload d_Fi_load_29 rfl ?_
  refine T_icmp_ge d_Fi_load_31 (tgt := 58) rfl (fun _ => ?_) (fun c => absurd (by decide) c)
  refine T_aload_n (v := .ref to) d_Fi_load_58 rfl (Or.inr ⟨_, rfl⟩) ?_
  refine T_iload d_Fi_load_59 rfl ?_
  refine T_lload_n d_Fi_load_61 rfl ?_
  refine T_lconst (v := 1) d_Fi_load_62 (by decide) ?_
  refine T_iload d_Fi_load_63 rfl ?_
  refine T_lshl d_Fi_load_65 ?_
  refine T_lconst (v := 1) d_Fi_load_66 (by decide) ?_
  refine T_lsub d_Fi_load_67 ?_
  refine T_land d_Fi_load_68 ?_
  refine T_topl (fun m5 em5 => ?_)
  have tm5 : m5.toInt = u19.toInt % 33554432 := by
    rw [em5, show (1 : Int64) <<< ((nI 25).toInt64 &&& 63) - 1 = 33554431 from rfl]; exact nn_and _ 25 _ (by decide) (by decide)
  clear em5
  refine X_last (n := 10) (k := 5) d_Fi_load_69 kto (by decide) (by decide) hl ?_
  refine T_lload_n d_Fi_load_70 rfl ?_
  refine T_iload d_Fi_load_71 rfl ?_
  refine T_lshr d_Fi_load_73 ?_
  refine T_topl (fun q6 eq6 => ?_)
  have tq6 : q6.toInt = u19.toInt / 33554432 := by
    rw [eq6]; exact nn_shr s25_ rg19 (by decide)
  clear eq6
  have rq6 : 0 ≤ q6.toInt ∧ q6.toInt < 2 ^ 7 := rl2 25 7 tq6 rg19
  refine T_lstore_n (L' := [(3, .long q6), (5, .int (nI 32)), (6, .int (nI (at0 + 20))), (8, .int (nI 25)), (7, .int (nI 5)), (0, .ref to), (1, .ref fr), (2, .int (nI at0))]) d_Fi_load_74 (by decide) rfl ?_
  refine T_iload d_Fi_load_75 rfl ?_
  refine T_iload d_Fi_load_77 rfl ?_
  refine T_isub d_Fi_load_79 ?_
  refine T_eq (st' := [.int (nI 7)]) rfl rfl rfl rfl ?_
  refine T_istore (L' := [(5, .int (nI 7)), (3, .long q6), (6, .int (nI (at0 + 20))), (8, .int (nI 25)), (7, .int (nI 5)), (0, .ref to), (1, .ref fr), (2, .int (nI at0))]) d_Fi_load_80 (by decide) rfl ?_
  refine T_iinc (x := nI 5) (L' := [(7, .int (nI 6)), (5, .int (nI 7)), (3, .long q6), (6, .int (nI (at0 + 20))), (8, .int (nI 25)), (0, .ref to), (1, .ref fr), (2, .int (nI at0))]) d_Fi_load_82 (by decide) rfl rfl ?_
  refine T_goto (tgt := 11) d_Fi_load_85 rfl ?_
  refine T_iload d_Fi_load_11 rfl ?_
  refine T_bipush (v := nI 10) d_Fi_load_13 (by decide) ?_
  refine T_icmp_ge d_Fi_load_15 (tgt := 88) rfl (fun c => absurd c (by decide)) (fun _ => ?_)
  refine T_bipush (v := nI 26) d_Fi_load_18 (by decide) ?_
  refine T_iload d_Fi_load_20 rfl ?_
  refine T_iconst (v := nI 1) d_Fi_load_22 (by decide) ?_
  refine T_iand d_Fi_load_23 ?_
  refine T_isub d_Fi_load_24 ?_
  refine T_eq (st' := [.int (nI 26)]) rfl rfl rfl rfl ?_
  refine T_istore (L' := [(8, .int (nI 26)), (7, .int (nI 6)), (5, .int (nI 7)), (3, .long q6), (6, .int (nI (at0 + 20))), (0, .ref to), (1, .ref fr), (2, .int (nI at0))]) d_Fi_load_25 (by decide) rfl ?_
  refine T_iload d_Fi_load_27 rfl ?_
  refine T_iload d_Fi_load_29 rfl ?_
  refine T_icmp_ge d_Fi_load_31 (tgt := 58) rfl (fun c => absurd c (by decide)) (fun _ => ?_)
  refine T_lload_n d_Fi_load_34 rfl ?_
  refine T_aload_n (v := .ref fr) d_Fi_load_35 rfl (Or.inr ⟨_, rfl⟩) ?_
  refine T_iload d_Fi_load_36 rfl ?_
  refine T_baload d_Fi_load_38 (X_ne hfr hne) (hv 20 (by decide)) (fun _ => ?_)
  rw [hcl 20 (by decide)]
  refine T_i2l d_Fi_load_39 ?_
  refine T_ldc2 d_Fi_load_40 kJ_Fi_41 ?_
  refine T_land d_Fi_load_43 ?_
  refine T_iload d_Fi_load_44 rfl ?_
  refine T_lshl d_Fi_load_46 ?_
  refine T_lor d_Fi_load_47 ?_
  have st20 := ldstep q6 (f (at0 + 20)) 7 (by decide) rq6.1 rq6.2
  refine T_topl (fun u20 eu20 => ?_)
  rw [← eu20] at st20
  clear eu20
  have by20 : 0 ≤ (f (at0 + 20)).toInt % 256 ∧ (f (at0 + 20)).toInt % 256 < 256 := ⟨Int.emod_nonneg _ (by decide), Int.emod_lt_of_pos _ (by decide)⟩
  have rg20 : 0 ≤ u20.toInt ∧ u20.toInt < 2 ^ 15 := rl1 7 st20 rq6 by20
  refine T_lstore_n (L' := [(3, .long u20), (8, .int (nI 26)), (7, .int (nI 6)), (5, .int (nI 7)), (6, .int (nI (at0 + 20))), (0, .ref to), (1, .ref fr), (2, .int (nI at0))]) d_Fi_load_48 (by decide) rfl ?_
  refine T_iinc (x := nI (at0 + 20)) (L' := [(6, .int (nI (at0 + 21))), (3, .long u20), (8, .int (nI 26)), (7, .int (nI 6)), (5, .int (nI 7)), (0, .ref to), (1, .ref fr), (2, .int (nI at0))]) d_Fi_load_49 (by decide) rfl (by rw [show Int32.ofInt 1 = nI 1 from rfl, nI_add]; rfl) ?_
  refine T_iinc (x := nI 7) (L' := [(5, .int (nI 15)), (6, .int (nI (at0 + 21))), (3, .long u20), (8, .int (nI 26)), (7, .int (nI 6)), (0, .ref to), (1, .ref fr), (2, .int (nI at0))]) d_Fi_load_52 (by decide) rfl rfl ?_
  refine T_goto (tgt := 27) d_Fi_load_55 rfl ?_
  refine T_iload d_Fi_load_27 rfl ?_
  refine T_iload d_Fi_load_29 rfl ?_
  refine T_icmp_ge d_Fi_load_31 (tgt := 58) rfl (fun c => absurd c (by decide)) (fun _ => ?_)
  refine T_lload_n d_Fi_load_34 rfl ?_
  refine T_aload_n (v := .ref fr) d_Fi_load_35 rfl (Or.inr ⟨_, rfl⟩) ?_
  refine T_iload d_Fi_load_36 rfl ?_
  refine T_baload d_Fi_load_38 (X_ne hfr hne) (hv 21 (by decide)) (fun _ => ?_)
  rw [hcl 21 (by decide)]
  refine T_i2l d_Fi_load_39 ?_
  refine T_ldc2 d_Fi_load_40 kJ_Fi_41 ?_
  refine T_land d_Fi_load_43 ?_
  refine T_iload d_Fi_load_44 rfl ?_
  refine T_lshl d_Fi_load_46 ?_
  refine T_lor d_Fi_load_47 ?_
  have st21 := ldstep u20 (f (at0 + 21)) 15 (by decide) rg20.1 rg20.2
  refine T_topl (fun u21 eu21 => ?_)
  rw [← eu21] at st21
  clear eu21
  have by21 : 0 ≤ (f (at0 + 21)).toInt % 256 ∧ (f (at0 + 21)).toInt % 256 < 256 := ⟨Int.emod_nonneg _ (by decide), Int.emod_lt_of_pos _ (by decide)⟩
  have rg21 : 0 ≤ u21.toInt ∧ u21.toInt < 2 ^ 23 := rl1 15 st21 rg20 by21
  refine T_lstore_n (L' := [(3, .long u21), (5, .int (nI 15)), (6, .int (nI (at0 + 21))), (8, .int (nI 26)), (7, .int (nI 6)), (0, .ref to), (1, .ref fr), (2, .int (nI at0))]) d_Fi_load_48 (by decide) rfl ?_
  refine T_iinc (x := nI (at0 + 21)) (L' := [(6, .int (nI (at0 + 22))), (3, .long u21), (5, .int (nI 15)), (8, .int (nI 26)), (7, .int (nI 6)), (0, .ref to), (1, .ref fr), (2, .int (nI at0))]) d_Fi_load_49 (by decide) rfl (by rw [show Int32.ofInt 1 = nI 1 from rfl, nI_add]; rfl) ?_
  refine T_iinc (x := nI 15) (L' := [(5, .int (nI 23)), (6, .int (nI (at0 + 22))), (3, .long u21), (8, .int (nI 26)), (7, .int (nI 6)), (0, .ref to), (1, .ref fr), (2, .int (nI at0))]) d_Fi_load_52 (by decide) rfl rfl ?_
  refine T_goto (tgt := 27) d_Fi_load_55 rfl ?_
  refine T_iload d_Fi_load_27 rfl ?_
  refine T_iload d_Fi_load_29 rfl ?_
  refine T_icmp_ge d_Fi_load_31 (tgt := 58) rfl (fun c => absurd c (by decide)) (fun _ => ?_)
  refine T_lload_n d_Fi_load_34 rfl ?_
  refine T_aload_n (v := .ref fr) d_Fi_load_35 rfl (Or.inr ⟨_, rfl⟩) ?_
  refine T_iload d_Fi_load_36 rfl ?_
  refine T_baload d_Fi_load_38 (X_ne hfr hne) (hv 22 (by decide)) (fun _ => ?_)
  rw [hcl 22 (by decide)]
  refine T_i2l d_Fi_load_39 ?_
  refine T_ldc2 d_Fi_load_40 kJ_Fi_41 ?_
  refine T_land d_Fi_load_43 ?_
  refine T_iload d_Fi_load_44 rfl ?_
  refine T_lshl d_Fi_load_46 ?_
  refine T_lor d_Fi_load_47 ?_
  have st22 := ldstep u21 (f (at0 + 22)) 23 (by decide) rg21.1 rg21.2
  refine T_topl (fun u22 eu22 => ?_)
  rw [← eu22] at st22
  clear eu22
  have by22 : 0 ≤ (f (at0 + 22)).toInt % 256 ∧ (f (at0 + 22)).toInt % 256 < 256 := ⟨Int.emod_nonneg _ (by decide), Int.emod_lt_of_pos _ (by decide)⟩
  have rg22 : 0 ≤ u22.toInt ∧ u22.toInt < 2 ^ 31 := rl1 23 st22 rg21 by22
  refine T_lstore_n (L' := [(3, .long u22), (5, .int (nI 23)), (6, .int (nI (at0 + 22))), (8, .int (nI 26)), (7, .int (nI 6)), (0, .ref to), (1, .ref fr), (2, .int (nI at0))]) d_Fi_load_48 (by decide) rfl ?_
  refine T_iinc (x := nI (at0 + 22)) (L' := [(6, .int (nI (at0 + 23))), (3, .long u22), (5, .int (nI 23)), (8, .int (nI 26)), (7, .int (nI 6)), (0, .ref to), (1, .ref fr), (2, .int (nI at0))]) d_Fi_load_49 (by decide) rfl (by rw [show Int32.ofInt 1 = nI 1 from rfl, nI_add]; rfl) ?_
  refine T_iinc (x := nI 23) (L' := [(5, .int (nI 31)), (6, .int (nI (at0 + 23))), (3, .long u22), (8, .int (nI 26)), (7, .int (nI 6)), (0, .ref to), (1, .ref fr), (2, .int (nI at0))]) d_Fi_load_52 (by decide) rfl rfl ?_
  refine T_goto (tgt := 27) d_Fi_load_55 rfl ?_
  refine T_iload d_Fi_load_27 rfl ?_
  refine T_iload d_Fi_load_29 rfl ?_
  refine T_icmp_ge d_Fi_load_31 (tgt := 58) rfl (fun _ => ?_) (fun c => absurd (by decide) c)
  refine T_aload_n (v := .ref to) d_Fi_load_58 rfl (Or.inr ⟨_, rfl⟩) ?_
  refine T_iload d_Fi_load_59 rfl ?_
  refine T_lload_n d_Fi_load_61 rfl ?_
  refine T_lconst (v := 1) d_Fi_load_62 (by decide) ?_
  refine T_iload d_Fi_load_63 rfl ?_
  refine T_lshl d_Fi_load_65 ?_
  refine T_lconst (v := 1) d_Fi_load_66 (by decide) ?_
  refine T_lsub d_Fi_load_67 ?_
  refine T_land d_Fi_load_68 ?_
  refine T_topl (fun m6 em6 => ?_)
  have tm6 : m6.toInt = u22.toInt % 67108864 := by
    rw [em6, show (1 : Int64) <<< ((nI 26).toInt64 &&& 63) - 1 = 67108863 from rfl]; exact nn_and _ 26 _ (by decide) (by decide)
  clear em6
  refine X_last (n := 10) (k := 6) d_Fi_load_69 kto (by decide) (by decide) hl ?_
  refine T_lload_n d_Fi_load_70 rfl ?_
  refine T_iload d_Fi_load_71 rfl ?_
  refine T_lshr d_Fi_load_73 ?_
  refine T_topl (fun q7 eq7 => ?_)
  have tq7 : q7.toInt = u22.toInt / 67108864 := by
    rw [eq7]; exact nn_shr s26_ rg22 (by decide)
  clear eq7
  have rq7 : 0 ≤ q7.toInt ∧ q7.toInt < 2 ^ 5 := rl2 26 5 tq7 rg22
  refine T_lstore_n (L' := [(3, .long q7), (5, .int (nI 31)), (6, .int (nI (at0 + 23))), (8, .int (nI 26)), (7, .int (nI 6)), (0, .ref to), (1, .ref fr), (2, .int (nI at0))]) d_Fi_load_74 (by decide) rfl ?_
  refine T_iload d_Fi_load_75 rfl ?_
  refine T_iload d_Fi_load_77 rfl ?_
  refine T_isub d_Fi_load_79 ?_
  refine T_eq (st' := [.int (nI 5)]) rfl rfl rfl rfl ?_
  refine T_istore (L' := [(5, .int (nI 5)), (3, .long q7), (6, .int (nI (at0 + 23))), (8, .int (nI 26)), (7, .int (nI 6)), (0, .ref to), (1, .ref fr), (2, .int (nI at0))]) d_Fi_load_80 (by decide) rfl ?_
  refine T_iinc (x := nI 6) (L' := [(7, .int (nI 7)), (5, .int (nI 5)), (3, .long q7), (6, .int (nI (at0 + 23))), (8, .int (nI 26)), (0, .ref to), (1, .ref fr), (2, .int (nI at0))]) d_Fi_load_82 (by decide) rfl rfl ?_
  refine T_goto (tgt := 11) d_Fi_load_85 rfl ?_
  refine T_iload d_Fi_load_11 rfl ?_
  refine T_bipush (v := nI 10) d_Fi_load_13 (by decide) ?_
  refine T_icmp_ge d_Fi_load_15 (tgt := 88) rfl (fun c => absurd c (by decide)) (fun _ => ?_)
  refine T_bipush (v := nI 26) d_Fi_load_18 (by decide) ?_
  refine T_iload d_Fi_load_20 rfl ?_
  refine T_iconst (v := nI 1) d_Fi_load_22 (by decide) ?_
  refine T_iand d_Fi_load_23 ?_
  refine T_isub d_Fi_load_24 ?_
  refine T_eq (st' := [.int (nI 25)]) rfl rfl rfl rfl ?_
  refine T_istore (L' := [(8, .int (nI 25)), (7, .int (nI 7)), (5, .int (nI 5)), (3, .long q7), (6, .int (nI (at0 + 23))), (0, .ref to), (1, .ref fr), (2, .int (nI at0))]) d_Fi_load_25 (by decide) rfl ?_
  refine T_iload d_Fi_load_27 rfl ?_
  refine T_iload d_Fi_load_29 rfl ?_
  refine T_icmp_ge d_Fi_load_31 (tgt := 58) rfl (fun c => absurd c (by decide)) (fun _ => ?_)
  refine T_lload_n d_Fi_load_34 rfl ?_
  refine T_aload_n (v := .ref fr) d_Fi_load_35 rfl (Or.inr ⟨_, rfl⟩) ?_
  refine T_iload d_Fi_load_36 rfl ?_
  refine T_baload d_Fi_load_38 (X_ne hfr hne) (hv 23 (by decide)) (fun _ => ?_)
  rw [hcl 23 (by decide)]
  refine T_i2l d_Fi_load_39 ?_
  refine T_ldc2 d_Fi_load_40 kJ_Fi_41 ?_
  refine T_land d_Fi_load_43 ?_
  refine T_iload d_Fi_load_44 rfl ?_
  refine T_lshl d_Fi_load_46 ?_
  refine T_lor d_Fi_load_47 ?_
  have st23 := ldstep q7 (f (at0 + 23)) 5 (by decide) rq7.1 rq7.2
  refine T_topl (fun u23 eu23 => ?_)
  rw [← eu23] at st23
  clear eu23
  have by23 : 0 ≤ (f (at0 + 23)).toInt % 256 ∧ (f (at0 + 23)).toInt % 256 < 256 := ⟨Int.emod_nonneg _ (by decide), Int.emod_lt_of_pos _ (by decide)⟩
  have rg23 : 0 ≤ u23.toInt ∧ u23.toInt < 2 ^ 13 := rl1 5 st23 rq7 by23
  refine T_lstore_n (L' := [(3, .long u23), (8, .int (nI 25)), (7, .int (nI 7)), (5, .int (nI 5)), (6, .int (nI (at0 + 23))), (0, .ref to), (1, .ref fr), (2, .int (nI at0))]) d_Fi_load_48 (by decide) rfl ?_
  refine T_iinc (x := nI (at0 + 23)) (L' := [(6, .int (nI (at0 + 24))), (3, .long u23), (8, .int (nI 25)), (7, .int (nI 7)), (5, .int (nI 5)), (0, .ref to), (1, .ref fr), (2, .int (nI at0))]) d_Fi_load_49 (by decide) rfl (by rw [show Int32.ofInt 1 = nI 1 from rfl, nI_add]; rfl) ?_
  refine T_iinc (x := nI 5) (L' := [(5, .int (nI 13)), (6, .int (nI (at0 + 24))), (3, .long u23), (8, .int (nI 25)), (7, .int (nI 7)), (0, .ref to), (1, .ref fr), (2, .int (nI at0))]) d_Fi_load_52 (by decide) rfl rfl ?_
  refine T_goto (tgt := 27) d_Fi_load_55 rfl ?_
  refine T_iload d_Fi_load_27 rfl ?_
  refine T_iload d_Fi_load_29 rfl ?_
  refine T_icmp_ge d_Fi_load_31 (tgt := 58) rfl (fun c => absurd c (by decide)) (fun _ => ?_)
  refine T_lload_n d_Fi_load_34 rfl ?_
  refine T_aload_n (v := .ref fr) d_Fi_load_35 rfl (Or.inr ⟨_, rfl⟩) ?_
  refine T_iload d_Fi_load_36 rfl ?_
  refine T_baload d_Fi_load_38 (X_ne hfr hne) (hv 24 (by decide)) (fun _ => ?_)
  rw [hcl 24 (by decide)]
  refine T_i2l d_Fi_load_39 ?_
  refine T_ldc2 d_Fi_load_40 kJ_Fi_41 ?_
  refine T_land d_Fi_load_43 ?_
  refine T_iload d_Fi_load_44 rfl ?_
  refine T_lshl d_Fi_load_46 ?_
  refine T_lor d_Fi_load_47 ?_
  have st24 := ldstep u23 (f (at0 + 24)) 13 (by decide) rg23.1 rg23.2
  refine T_topl (fun u24 eu24 => ?_)
  rw [← eu24] at st24
  clear eu24
  have by24 : 0 ≤ (f (at0 + 24)).toInt % 256 ∧ (f (at0 + 24)).toInt % 256 < 256 := ⟨Int.emod_nonneg _ (by decide), Int.emod_lt_of_pos _ (by decide)⟩
  have rg24 : 0 ≤ u24.toInt ∧ u24.toInt < 2 ^ 21 := rl1 13 st24 rg23 by24
  refine T_lstore_n (L' := [(3, .long u24), (5, .int (nI 13)), (6, .int (nI (at0 + 24))), (8, .int (nI 25)), (7, .int (nI 7)), (0, .ref to), (1, .ref fr), (2, .int (nI at0))]) d_Fi_load_48 (by decide) rfl ?_
  refine T_iinc (x := nI (at0 + 24)) (L' := [(6, .int (nI (at0 + 25))), (3, .long u24), (5, .int (nI 13)), (8, .int (nI 25)), (7, .int (nI 7)), (0, .ref to), (1, .ref fr), (2, .int (nI at0))]) d_Fi_load_49 (by decide) rfl (by rw [show Int32.ofInt 1 = nI 1 from rfl, nI_add]; rfl) ?_
  refine T_iinc (x := nI 13) (L' := [(5, .int (nI 21)), (6, .int (nI (at0 + 25))), (3, .long u24), (8, .int (nI 25)), (7, .int (nI 7)), (0, .ref to), (1, .ref fr), (2, .int (nI at0))]) d_Fi_load_52 (by decide) rfl rfl ?_
  refine T_goto (tgt := 27) d_Fi_load_55 rfl ?_
  refine T_iload d_Fi_load_27 rfl ?_
  refine T_iload d_Fi_load_29 rfl ?_
  refine T_icmp_ge d_Fi_load_31 (tgt := 58) rfl (fun c => absurd c (by decide)) (fun _ => ?_)
  refine T_lload_n d_Fi_load_34 rfl ?_
  refine T_aload_n (v := .ref fr) d_Fi_load_35 rfl (Or.inr ⟨_, rfl⟩) ?_
  refine T_iload d_Fi_load_36 rfl ?_
  refine T_baload d_Fi_load_38 (X_ne hfr hne) (hv 25 (by decide)) (fun _ => ?_)
  rw [hcl 25 (by decide)]
  refine T_i2l d_Fi_load_39 ?_
  refine T_ldc2 d_Fi_load_40 kJ_Fi_41 ?_
  refine T_land d_Fi_load_43 ?_
  refine T_iload d_Fi_load_44 rfl ?_
  refine T_lshl d_Fi_load_46 ?_
  refine T_lor d_Fi_load_47 ?_
  have st25 := ldstep u24 (f (at0 + 25)) 21 (by decide) rg24.1 rg24.2
  refine T_topl (fun u25 eu25 => ?_)
  rw [← eu25] at st25
  clear eu25
  have by25 : 0 ≤ (f (at0 + 25)).toInt % 256 ∧ (f (at0 + 25)).toInt % 256 < 256 := ⟨Int.emod_nonneg _ (by decide), Int.emod_lt_of_pos _ (by decide)⟩
  have rg25 : 0 ≤ u25.toInt ∧ u25.toInt < 2 ^ 29 := rl1 21 st25 rg24 by25
  refine T_lstore_n (L' := [(3, .long u25), (5, .int (nI 21)), (6, .int (nI (at0 + 25))), (8, .int (nI 25)), (7, .int (nI 7)), (0, .ref to), (1, .ref fr), (2, .int (nI at0))]) d_Fi_load_48 (by decide) rfl ?_
  refine T_iinc (x := nI (at0 + 25)) (L' := [(6, .int (nI (at0 + 26))), (3, .long u25), (5, .int (nI 21)), (8, .int (nI 25)), (7, .int (nI 7)), (0, .ref to), (1, .ref fr), (2, .int (nI at0))]) d_Fi_load_49 (by decide) rfl (by rw [show Int32.ofInt 1 = nI 1 from rfl, nI_add]; rfl) ?_
  refine T_iinc (x := nI 21) (L' := [(5, .int (nI 29)), (6, .int (nI (at0 + 26))), (3, .long u25), (8, .int (nI 25)), (7, .int (nI 7)), (0, .ref to), (1, .ref fr), (2, .int (nI at0))]) d_Fi_load_52 (by decide) rfl rfl ?_
  refine T_goto (tgt := 27) d_Fi_load_55 rfl ?_
  refine T_iload d_Fi_load_27 rfl ?_
  refine T_iload d_Fi_load_29 rfl ?_
  refine T_icmp_ge d_Fi_load_31 (tgt := 58) rfl (fun _ => ?_) (fun c => absurd (by decide) c)
  refine T_aload_n (v := .ref to) d_Fi_load_58 rfl (Or.inr ⟨_, rfl⟩) ?_
  refine T_iload d_Fi_load_59 rfl ?_
  refine T_lload_n d_Fi_load_61 rfl ?_
  refine T_lconst (v := 1) d_Fi_load_62 (by decide) ?_
  refine T_iload d_Fi_load_63 rfl ?_
  refine T_lshl d_Fi_load_65 ?_
  refine T_lconst (v := 1) d_Fi_load_66 (by decide) ?_
  refine T_lsub d_Fi_load_67 ?_
  refine T_land d_Fi_load_68 ?_
  refine T_topl (fun m7 em7 => ?_)
  have tm7 : m7.toInt = u25.toInt % 33554432 := by
    rw [em7, show (1 : Int64) <<< ((nI 25).toInt64 &&& 63) - 1 = 33554431 from rfl]; exact nn_and _ 25 _ (by decide) (by decide)
  clear em7
  refine X_last (n := 10) (k := 7) d_Fi_load_69 kto (by decide) (by decide) hl ?_
  refine T_lload_n d_Fi_load_70 rfl ?_
  refine T_iload d_Fi_load_71 rfl ?_
  refine T_lshr d_Fi_load_73 ?_
  refine T_topl (fun q8 eq8 => ?_)
  have tq8 : q8.toInt = u25.toInt / 33554432 := by
    rw [eq8]; exact nn_shr s25_ rg25 (by decide)
  clear eq8
  have rq8 : 0 ≤ q8.toInt ∧ q8.toInt < 2 ^ 4 := rl2 25 4 tq8 rg25
  refine T_lstore_n (L' := [(3, .long q8), (5, .int (nI 29)), (6, .int (nI (at0 + 26))), (8, .int (nI 25)), (7, .int (nI 7)), (0, .ref to), (1, .ref fr), (2, .int (nI at0))]) d_Fi_load_74 (by decide) rfl ?_
  refine T_iload d_Fi_load_75 rfl ?_
  refine T_iload d_Fi_load_77 rfl ?_
  refine T_isub d_Fi_load_79 ?_
  refine T_eq (st' := [.int (nI 4)]) rfl rfl rfl rfl ?_
  refine T_istore (L' := [(5, .int (nI 4)), (3, .long q8), (6, .int (nI (at0 + 26))), (8, .int (nI 25)), (7, .int (nI 7)), (0, .ref to), (1, .ref fr), (2, .int (nI at0))]) d_Fi_load_80 (by decide) rfl ?_
  refine T_iinc (x := nI 7) (L' := [(7, .int (nI 8)), (5, .int (nI 4)), (3, .long q8), (6, .int (nI (at0 + 26))), (8, .int (nI 25)), (0, .ref to), (1, .ref fr), (2, .int (nI at0))]) d_Fi_load_82 (by decide) rfl rfl ?_
  refine T_goto (tgt := 11) d_Fi_load_85 rfl ?_
  refine T_iload d_Fi_load_11 rfl ?_
  refine T_bipush (v := nI 10) d_Fi_load_13 (by decide) ?_
  refine T_icmp_ge d_Fi_load_15 (tgt := 88) rfl (fun c => absurd c (by decide)) (fun _ => ?_)
  refine T_bipush (v := nI 26) d_Fi_load_18 (by decide) ?_
  refine T_iload d_Fi_load_20 rfl ?_
  refine T_iconst (v := nI 1) d_Fi_load_22 (by decide) ?_
  refine T_iand d_Fi_load_23 ?_
  refine T_isub d_Fi_load_24 ?_
  refine T_eq (st' := [.int (nI 26)]) rfl rfl rfl rfl ?_
  refine T_istore (L' := [(8, .int (nI 26)), (7, .int (nI 8)), (5, .int (nI 4)), (3, .long q8), (6, .int (nI (at0 + 26))), (0, .ref to), (1, .ref fr), (2, .int (nI at0))]) d_Fi_load_25 (by decide) rfl ?_
  refine T_iload d_Fi_load_27 rfl ?_
  refine T_iload d_Fi_load_29 rfl ?_
  refine T_icmp_ge d_Fi_load_31 (tgt := 58) rfl (fun c => absurd c (by decide)) (fun _ => ?_)
  refine T_lload_n d_Fi_load_34 rfl ?_
  refine T_aload_n (v := .ref fr) d_Fi_load_35 rfl (Or.inr ⟨_, rfl⟩) ?_
  refine T_iload d_Fi_load_36 rfl ?_
  refine T_baload d_Fi_load_38 (X_ne hfr hne) (hv 26 (by decide)) (fun _ => ?_)
  rw [hcl 26 (by decide)]
  refine T_i2l d_Fi_load_39 ?_
  refine T_ldc2 d_Fi_load_40 kJ_Fi_41 ?_
  refine T_land d_Fi_load_43 ?_
  refine T_iload d_Fi_load_44 rfl ?_
  refine T_lshl d_Fi_load_46 ?_
  refine T_lor d_Fi_load_47 ?_
  have st26 := ldstep q8 (f (at0 + 26)) 4 (by decide) rq8.1 rq8.2
  refine T_topl (fun u26 eu26 => ?_)
  rw [← eu26] at st26
  clear eu26
  have by26 : 0 ≤ (f (at0 + 26)).toInt % 256 ∧ (f (at0 + 26)).toInt % 256 < 256 := ⟨Int.emod_nonneg _ (by decide), Int.emod_lt_of_pos _ (by decide)⟩
  have rg26 : 0 ≤ u26.toInt ∧ u26.toInt < 2 ^ 12 := rl1 4 st26 rq8 by26
  refine T_lstore_n (L' := [(3, .long u26), (8, .int (nI 26)), (7, .int (nI 8)), (5, .int (nI 4)), (6, .int (nI (at0 + 26))), (0, .ref to), (1, .ref fr), (2, .int (nI at0))]) d_Fi_load_48 (by decide) rfl ?_
  refine T_iinc (x := nI (at0 + 26)) (L' := [(6, .int (nI (at0 + 27))), (3, .long u26), (8, .int (nI 26)), (7, .int (nI 8)), (5, .int (nI 4)), (0, .ref to), (1, .ref fr), (2, .int (nI at0))]) d_Fi_load_49 (by decide) rfl (by rw [show Int32.ofInt 1 = nI 1 from rfl, nI_add]; rfl) ?_
  refine T_iinc (x := nI 4) (L' := [(5, .int (nI 12)), (6, .int (nI (at0 + 27))), (3, .long u26), (8, .int (nI 26)), (7, .int (nI 8)), (0, .ref to), (1, .ref fr), (2, .int (nI at0))]) d_Fi_load_52 (by decide) rfl rfl ?_
  refine T_goto (tgt := 27) d_Fi_load_55 rfl ?_
  refine T_iload d_Fi_load_27 rfl ?_
  refine T_iload d_Fi_load_29 rfl ?_
  refine T_icmp_ge d_Fi_load_31 (tgt := 58) rfl (fun c => absurd c (by decide)) (fun _ => ?_)
  refine T_lload_n d_Fi_load_34 rfl ?_
  refine T_aload_n (v := .ref fr) d_Fi_load_35 rfl (Or.inr ⟨_, rfl⟩) ?_
  refine T_iload d_Fi_load_36 rfl ?_
  refine T_baload d_Fi_load_38 (X_ne hfr hne) (hv 27 (by decide)) (fun _ => ?_)
  rw [hcl 27 (by decide)]
  refine T_i2l d_Fi_load_39 ?_
  refine T_ldc2 d_Fi_load_40 kJ_Fi_41 ?_
  refine T_land d_Fi_load_43 ?_
  refine T_iload d_Fi_load_44 rfl ?_
  refine T_lshl d_Fi_load_46 ?_
  refine T_lor d_Fi_load_47 ?_
  have st27 := ldstep u26 (f (at0 + 27)) 12 (by decide) rg26.1 rg26.2
  refine T_topl (fun u27 eu27 => ?_)
  rw [← eu27] at st27
  clear eu27
  have by27 : 0 ≤ (f (at0 + 27)).toInt % 256 ∧ (f (at0 + 27)).toInt % 256 < 256 := ⟨Int.emod_nonneg _ (by decide), Int.emod_lt_of_pos _ (by decide)⟩
  have rg27 : 0 ≤ u27.toInt ∧ u27.toInt < 2 ^ 20 := rl1 12 st27 rg26 by27
  refine T_lstore_n (L' := [(3, .long u27), (5, .int (nI 12)), (6, .int (nI (at0 + 27))), (8, .int (nI 26)), (7, .int (nI 8)), (0, .ref to), (1, .ref fr), (2, .int (nI at0))]) d_Fi_load_48 (by decide) rfl ?_
  refine T_iinc (x := nI (at0 + 27)) (L' := [(6, .int (nI (at0 + 28))), (3, .long u27), (5, .int (nI 12)), (8, .int (nI 26)), (7, .int (nI 8)), (0, .ref to), (1, .ref fr), (2, .int (nI at0))]) d_Fi_load_49 (by decide) rfl (by rw [show Int32.ofInt 1 = nI 1 from rfl, nI_add]; rfl) ?_
  refine T_iinc (x := nI 12) (L' := [(5, .int (nI 20)), (6, .int (nI (at0 + 28))), (3, .long u27), (8, .int (nI 26)), (7, .int (nI 8)), (0, .ref to), (1, .ref fr), (2, .int (nI at0))]) d_Fi_load_52 (by decide) rfl rfl ?_
  refine T_goto (tgt := 27) d_Fi_load_55 rfl ?_
  refine T_iload d_Fi_load_27 rfl ?_
  refine T_iload d_Fi_load_29 rfl ?_
  refine T_icmp_ge d_Fi_load_31 (tgt := 58) rfl (fun c => absurd c (by decide)) (fun _ => ?_)
  refine T_lload_n d_Fi_load_34 rfl ?_
  refine T_aload_n (v := .ref fr) d_Fi_load_35 rfl (Or.inr ⟨_, rfl⟩) ?_
  refine T_iload d_Fi_load_36 rfl ?_
  refine T_baload d_Fi_load_38 (X_ne hfr hne) (hv 28 (by decide)) (fun _ => ?_)
  rw [hcl 28 (by decide)]
  refine T_i2l d_Fi_load_39 ?_
  refine T_ldc2 d_Fi_load_40 kJ_Fi_41 ?_
  refine T_land d_Fi_load_43 ?_
  refine T_iload d_Fi_load_44 rfl ?_
  refine T_lshl d_Fi_load_46 ?_
  refine T_lor d_Fi_load_47 ?_
  have st28 := ldstep u27 (f (at0 + 28)) 20 (by decide) rg27.1 rg27.2
  refine T_topl (fun u28 eu28 => ?_)
  rw [← eu28] at st28
  clear eu28
  have by28 : 0 ≤ (f (at0 + 28)).toInt % 256 ∧ (f (at0 + 28)).toInt % 256 < 256 := ⟨Int.emod_nonneg _ (by decide), Int.emod_lt_of_pos _ (by decide)⟩
  have rg28 : 0 ≤ u28.toInt ∧ u28.toInt < 2 ^ 28 := rl1 20 st28 rg27 by28
  refine T_lstore_n (L' := [(3, .long u28), (5, .int (nI 20)), (6, .int (nI (at0 + 28))), (8, .int (nI 26)), (7, .int (nI 8)), (0, .ref to), (1, .ref fr), (2, .int (nI at0))]) d_Fi_load_48 (by decide) rfl ?_
  refine T_iinc (x := nI (at0 + 28)) (L' := [(6, .int (nI (at0 + 29))), (3, .long u28), (5, .int (nI 20)), (8, .int (nI 26)), (7, .int (nI 8)), (0, .ref to), (1, .ref fr), (2, .int (nI at0))]) d_Fi_load_49 (by decide) rfl (by rw [show Int32.ofInt 1 = nI 1 from rfl, nI_add]; rfl) ?_
  refine T_iinc (x := nI 20) (L' := [(5, .int (nI 28)), (6, .int (nI (at0 + 29))), (3, .long u28), (8, .int (nI 26)), (7, .int (nI 8)), (0, .ref to), (1, .ref fr), (2, .int (nI at0))]) d_Fi_load_52 (by decide) rfl rfl ?_
  refine T_goto (tgt := 27) d_Fi_load_55 rfl ?_
  refine T_iload d_Fi_load_27 rfl ?_
  refine T_iload d_Fi_load_29 rfl ?_
  refine T_icmp_ge d_Fi_load_31 (tgt := 58) rfl (fun _ => ?_) (fun c => absurd (by decide) c)
  refine T_aload_n (v := .ref to) d_Fi_load_58 rfl (Or.inr ⟨_, rfl⟩) ?_
  refine T_iload d_Fi_load_59 rfl ?_
  refine T_lload_n d_Fi_load_61 rfl ?_
  refine T_lconst (v := 1) d_Fi_load_62 (by decide) ?_
  refine T_iload d_Fi_load_63 rfl ?_
  refine T_lshl d_Fi_load_65 ?_
  refine T_lconst (v := 1) d_Fi_load_66 (by decide) ?_
  refine T_lsub d_Fi_load_67 ?_
  refine T_land d_Fi_load_68 ?_
  refine T_topl (fun m8 em8 => ?_)
  have tm8 : m8.toInt = u28.toInt % 67108864 := by
    rw [em8, show (1 : Int64) <<< ((nI 26).toInt64 &&& 63) - 1 = 67108863 from rfl]; exact nn_and _ 26 _ (by decide) (by decide)
  clear em8
  refine X_last (n := 10) (k := 8) d_Fi_load_69 kto (by decide) (by decide) hl ?_
  refine T_lload_n d_Fi_load_70 rfl ?_
  refine T_iload d_Fi_load_71 rfl ?_
  refine T_lshr d_Fi_load_73 ?_
  refine T_topl (fun q9 eq9 => ?_)
  have tq9 : q9.toInt = u28.toInt / 67108864 := by
    rw [eq9]; exact nn_shr s26_ rg28 (by decide)
  clear eq9
  have rq9 : 0 ≤ q9.toInt ∧ q9.toInt < 2 ^ 2 := rl2 26 2 tq9 rg28
  refine T_lstore_n (L' := [(3, .long q9), (5, .int (nI 28)), (6, .int (nI (at0 + 29))), (8, .int (nI 26)), (7, .int (nI 8)), (0, .ref to), (1, .ref fr), (2, .int (nI at0))]) d_Fi_load_74 (by decide) rfl ?_
  refine T_iload d_Fi_load_75 rfl ?_
  refine T_iload d_Fi_load_77 rfl ?_
  refine T_isub d_Fi_load_79 ?_
  refine T_eq (st' := [.int (nI 2)]) rfl rfl rfl rfl ?_
  refine T_istore (L' := [(5, .int (nI 2)), (3, .long q9), (6, .int (nI (at0 + 29))), (8, .int (nI 26)), (7, .int (nI 8)), (0, .ref to), (1, .ref fr), (2, .int (nI at0))]) d_Fi_load_80 (by decide) rfl ?_
  refine T_iinc (x := nI 8) (L' := [(7, .int (nI 9)), (5, .int (nI 2)), (3, .long q9), (6, .int (nI (at0 + 29))), (8, .int (nI 26)), (0, .ref to), (1, .ref fr), (2, .int (nI at0))]) d_Fi_load_82 (by decide) rfl rfl ?_
  refine T_goto (tgt := 11) d_Fi_load_85 rfl ?_
  refine T_iload d_Fi_load_11 rfl ?_
  refine T_bipush (v := nI 10) d_Fi_load_13 (by decide) ?_
  refine T_icmp_ge d_Fi_load_15 (tgt := 88) rfl (fun c => absurd c (by decide)) (fun _ => ?_)
  refine T_bipush (v := nI 26) d_Fi_load_18 (by decide) ?_
  refine T_iload d_Fi_load_20 rfl ?_
  refine T_iconst (v := nI 1) d_Fi_load_22 (by decide) ?_
  refine T_iand d_Fi_load_23 ?_
  refine T_isub d_Fi_load_24 ?_
  refine T_eq (st' := [.int (nI 25)]) rfl rfl rfl rfl ?_
  refine T_istore (L' := [(8, .int (nI 25)), (7, .int (nI 9)), (5, .int (nI 2)), (3, .long q9), (6, .int (nI (at0 + 29))), (0, .ref to), (1, .ref fr), (2, .int (nI at0))]) d_Fi_load_25 (by decide) rfl ?_
  refine T_iload d_Fi_load_27 rfl ?_
  refine T_iload d_Fi_load_29 rfl ?_
  refine T_icmp_ge d_Fi_load_31 (tgt := 58) rfl (fun c => absurd c (by decide)) (fun _ => ?_)
  refine T_lload_n d_Fi_load_34 rfl ?_
  refine T_aload_n (v := .ref fr) d_Fi_load_35 rfl (Or.inr ⟨_, rfl⟩) ?_
  refine T_iload d_Fi_load_36 rfl ?_
  refine T_baload d_Fi_load_38 (X_ne hfr hne) (hv 29 (by decide)) (fun _ => ?_)
  rw [hcl 29 (by decide)]
  refine T_i2l d_Fi_load_39 ?_
  refine T_ldc2 d_Fi_load_40 kJ_Fi_41 ?_
  refine T_land d_Fi_load_43 ?_
  refine T_iload d_Fi_load_44 rfl ?_
  refine T_lshl d_Fi_load_46 ?_
  refine T_lor d_Fi_load_47 ?_
  have st29 := ldstep q9 (f (at0 + 29)) 2 (by decide) rq9.1 rq9.2
  refine T_topl (fun u29 eu29 => ?_)
  rw [← eu29] at st29
  clear eu29
  have by29 : 0 ≤ (f (at0 + 29)).toInt % 256 ∧ (f (at0 + 29)).toInt % 256 < 256 := ⟨Int.emod_nonneg _ (by decide), Int.emod_lt_of_pos _ (by decide)⟩
  have rg29 : 0 ≤ u29.toInt ∧ u29.toInt < 2 ^ 10 := rl1 2 st29 rq9 by29
  refine T_lstore_n (L' := [(3, .long u29), (8, .int (nI 25)), (7, .int (nI 9)), (5, .int (nI 2)), (6, .int (nI (at0 + 29))), (0, .ref to), (1, .ref fr), (2, .int (nI at0))]) d_Fi_load_48 (by decide) rfl ?_
  refine T_iinc (x := nI (at0 + 29)) (L' := [(6, .int (nI (at0 + 30))), (3, .long u29), (8, .int (nI 25)), (7, .int (nI 9)), (5, .int (nI 2)), (0, .ref to), (1, .ref fr), (2, .int (nI at0))]) d_Fi_load_49 (by decide) rfl (by rw [show Int32.ofInt 1 = nI 1 from rfl, nI_add]; rfl) ?_
  refine T_iinc (x := nI 2) (L' := [(5, .int (nI 10)), (6, .int (nI (at0 + 30))), (3, .long u29), (8, .int (nI 25)), (7, .int (nI 9)), (0, .ref to), (1, .ref fr), (2, .int (nI at0))]) d_Fi_load_52 (by decide) rfl rfl ?_
  refine T_goto (tgt := 27) d_Fi_load_55 rfl ?_
  refine T_iload d_Fi_load_27 rfl ?_
  refine T_iload d_Fi_load_29 rfl ?_
  refine T_icmp_ge d_Fi_load_31 (tgt := 58) rfl (fun c => absurd c (by decide)) (fun _ => ?_)
  refine T_lload_n d_Fi_load_34 rfl ?_
  refine T_aload_n (v := .ref fr) d_Fi_load_35 rfl (Or.inr ⟨_, rfl⟩) ?_
  refine T_iload d_Fi_load_36 rfl ?_
  refine T_baload d_Fi_load_38 (X_ne hfr hne) (hv 30 (by decide)) (fun _ => ?_)
  rw [hcl 30 (by decide)]
  refine T_i2l d_Fi_load_39 ?_
  refine T_ldc2 d_Fi_load_40 kJ_Fi_41 ?_
  refine T_land d_Fi_load_43 ?_
  refine T_iload d_Fi_load_44 rfl ?_
  refine T_lshl d_Fi_load_46 ?_
  refine T_lor d_Fi_load_47 ?_
  have st30 := ldstep u29 (f (at0 + 30)) 10 (by decide) rg29.1 rg29.2
  refine T_topl (fun u30 eu30 => ?_)
  rw [← eu30] at st30
  clear eu30
  have by30 : 0 ≤ (f (at0 + 30)).toInt % 256 ∧ (f (at0 + 30)).toInt % 256 < 256 := ⟨Int.emod_nonneg _ (by decide), Int.emod_lt_of_pos _ (by decide)⟩
  have rg30 : 0 ≤ u30.toInt ∧ u30.toInt < 2 ^ 18 := rl1 10 st30 rg29 by30
  refine T_lstore_n (L' := [(3, .long u30), (5, .int (nI 10)), (6, .int (nI (at0 + 30))), (8, .int (nI 25)), (7, .int (nI 9)), (0, .ref to), (1, .ref fr), (2, .int (nI at0))]) d_Fi_load_48 (by decide) rfl ?_
  refine T_iinc (x := nI (at0 + 30)) (L' := [(6, .int (nI (at0 + 31))), (3, .long u30), (5, .int (nI 10)), (8, .int (nI 25)), (7, .int (nI 9)), (0, .ref to), (1, .ref fr), (2, .int (nI at0))]) d_Fi_load_49 (by decide) rfl (by rw [show Int32.ofInt 1 = nI 1 from rfl, nI_add]; rfl) ?_
  refine T_iinc (x := nI 10) (L' := [(5, .int (nI 18)), (6, .int (nI (at0 + 31))), (3, .long u30), (8, .int (nI 25)), (7, .int (nI 9)), (0, .ref to), (1, .ref fr), (2, .int (nI at0))]) d_Fi_load_52 (by decide) rfl rfl ?_
  refine T_goto (tgt := 27) d_Fi_load_55 rfl ?_
  refine T_iload d_Fi_load_27 rfl ?_
  refine T_iload d_Fi_load_29 rfl ?_
  refine T_icmp_ge d_Fi_load_31 (tgt := 58) rfl (fun c => absurd c (by decide)) (fun _ => ?_)
  refine T_lload_n d_Fi_load_34 rfl ?_
  refine T_aload_n (v := .ref fr) d_Fi_load_35 rfl (Or.inr ⟨_, rfl⟩) ?_
  refine T_iload d_Fi_load_36 rfl ?_
  refine T_baload d_Fi_load_38 (X_ne hfr hne) (hv 31 (by decide)) (fun _ => ?_)
  rw [hcl 31 (by decide)]
  refine T_i2l d_Fi_load_39 ?_
  refine T_ldc2 d_Fi_load_40 kJ_Fi_41 ?_
  refine T_land d_Fi_load_43 ?_
  refine T_iload d_Fi_load_44 rfl ?_
  refine T_lshl d_Fi_load_46 ?_
  refine T_lor d_Fi_load_47 ?_
  have st31 := ldstep u30 (f (at0 + 31)) 18 (by decide) rg30.1 rg30.2
  refine T_topl (fun u31 eu31 => ?_)
  rw [← eu31] at st31
  clear eu31
  have by31 : 0 ≤ (f (at0 + 31)).toInt % 256 ∧ (f (at0 + 31)).toInt % 256 < 256 := ⟨Int.emod_nonneg _ (by decide), Int.emod_lt_of_pos _ (by decide)⟩
  have rg31 : 0 ≤ u31.toInt ∧ u31.toInt < 2 ^ 26 := rl1 18 st31 rg30 by31
  refine T_lstore_n (L' := [(3, .long u31), (5, .int (nI 18)), (6, .int (nI (at0 + 31))), (8, .int (nI 25)), (7, .int (nI 9)), (0, .ref to), (1, .ref fr), (2, .int (nI at0))]) d_Fi_load_48 (by decide) rfl ?_
  refine T_iinc (x := nI (at0 + 31)) (L' := [(6, .int (nI (at0 + 32))), (3, .long u31), (5, .int (nI 18)), (8, .int (nI 25)), (7, .int (nI 9)), (0, .ref to), (1, .ref fr), (2, .int (nI at0))]) d_Fi_load_49 (by decide) rfl (by rw [show Int32.ofInt 1 = nI 1 from rfl, nI_add]; rfl) ?_
  refine T_iinc (x := nI 18) (L' := [(5, .int (nI 26)), (6, .int (nI (at0 + 32))), (3, .long u31), (8, .int (nI 25)), (7, .int (nI 9)), (0, .ref to), (1, .ref fr), (2, .int (nI at0))]) d_Fi_load_52 (by decide) rfl rfl ?_
  refine T_goto (tgt := 27) d_Fi_load_55 rfl ?_
  refine T_iload d_Fi_load_27 rfl ?_
  refine T_iload d_Fi_load_29 rfl ?_
  refine T_icmp_ge d_Fi_load_31 (tgt := 58) rfl (fun _ => ?_) (fun c => absurd (by decide) c)
  refine T_aload_n (v := .ref to) d_Fi_load_58 rfl (Or.inr ⟨_, rfl⟩) ?_
  refine T_iload d_Fi_load_59 rfl ?_
  refine T_lload_n d_Fi_load_61 rfl ?_
  refine T_lconst (v := 1) d_Fi_load_62 (by decide) ?_
  refine T_iload d_Fi_load_63 rfl ?_
  refine T_lshl d_Fi_load_65 ?_
  refine T_lconst (v := 1) d_Fi_load_66 (by decide) ?_
  refine T_lsub d_Fi_load_67 ?_
  refine T_land d_Fi_load_68 ?_
  refine T_topl (fun m9 em9 => ?_)
  have tm9 : m9.toInt = u31.toInt % 33554432 := by
    rw [em9, show (1 : Int64) <<< ((nI 25).toInt64 &&& 63) - 1 = 33554431 from rfl]; exact nn_and _ 25 _ (by decide) (by decide)
  clear em9
  refine X_last (n := 10) (k := 9) d_Fi_load_69 kto (by decide) (by decide) hl ?_
  refine T_lload_n d_Fi_load_70 rfl ?_
  refine T_iload d_Fi_load_71 rfl ?_
  refine T_lshr d_Fi_load_73 ?_
  refine T_topl (fun q10 eq10 => ?_)
  have tq10 : q10.toInt = u31.toInt / 33554432 := by
    rw [eq10]; exact nn_shr s25_ rg31 (by decide)
  clear eq10
  have rq10 : 0 ≤ q10.toInt ∧ q10.toInt < 2 ^ 1 := rl2 25 1 tq10 rg31
  refine T_lstore_n (L' := [(3, .long q10), (5, .int (nI 26)), (6, .int (nI (at0 + 32))), (8, .int (nI 25)), (7, .int (nI 9)), (0, .ref to), (1, .ref fr), (2, .int (nI at0))]) d_Fi_load_74 (by decide) rfl ?_
  refine T_iload d_Fi_load_75 rfl ?_
  refine T_iload d_Fi_load_77 rfl ?_
  refine T_isub d_Fi_load_79 ?_
  refine T_eq (st' := [.int (nI 1)]) rfl rfl rfl rfl ?_
  refine T_istore (L' := [(5, .int (nI 1)), (3, .long q10), (6, .int (nI (at0 + 32))), (8, .int (nI 25)), (7, .int (nI 9)), (0, .ref to), (1, .ref fr), (2, .int (nI at0))]) d_Fi_load_80 (by decide) rfl ?_
  refine T_iinc (x := nI 9) (L' := [(7, .int (nI 10)), (5, .int (nI 1)), (3, .long q10), (6, .int (nI (at0 + 32))), (8, .int (nI 25)), (0, .ref to), (1, .ref fr), (2, .int (nI at0))]) d_Fi_load_82 (by decide) rfl rfl ?_
  refine T_goto (tgt := 11) d_Fi_load_85 rfl ?_
  refine T_iload d_Fi_load_11 rfl ?_
  refine T_bipush (v := nI 10) d_Fi_load_13 (by decide) ?_
  refine T_icmp_ge d_Fi_load_15 (tgt := 88) rfl (fun _ => ?_) (fun c => absurd (by decide) c)
  have K := load10 by0 by1 by2 by3 by4 by5 by6 by7 by8 by9 by10 by11 by12 by13 by14 by15 by16 by17 by18 by19 by20 by21 by22 by23 by24 by25 by26 by27 by28 by29 by30 by31 (show u0.toInt = 0 + (f (at0 + 0)).toInt % 256 * 1 by rw [st0]; rfl) st1 st2 st3 tq1 st4 st5 st6 tq2 st7 st8 st9 tq3 st10 st11 st12 tq4 st13 st14 st15 tq5 st16 st17 st18 st19 tq6 st20 st21 st22 tq7 st23 st24 st25 tq8 st26 st27 st28 tq9 st29 st30 st31 rfl
  obtain ⟨k0, k1, k2, k3, k4, k5, k6, k7, k8, k9⟩ := K
  exact T_vret d_Fi_load_88 rfl (by decide) (by decide) ⟨rfl, _, rfl, tm0.trans k0, tm1.trans k1, tm2.trans k2, tm3.trans k3, tm4.trans k4, tm5.trans k5, tm6.trans k6, tm7.trans k7, tm8.trans k8, tm9.trans k9⟩
abbrev br (n : Nat) (f : Nat → Int32) : va_E := .inl (1, n, .inl f)
abbrev byO (d k : Nat) : va_E := .inr (4, [.ref d, .int (nI k)])
def sb (z : Int) : Int32 := (Int32.ofInt z).toInt8.toInt32
theorem sb_of (h : Int64) : h.toInt32.toInt8.toInt32 = sb (h.toInt % 256) := by
  unfold sb
  have e1 : h.toInt32.toInt8 = Int8.ofInt h.toInt := by
    conv => lhs; rw [← Int64.ofInt_toInt h]
    rw [Int64.toInt32_ofInt, Int32.toInt8_ofInt]
  have e2 : (Int32.ofInt (h.toInt % 256)).toInt8 = Int8.ofInt h.toInt := by
    rw [Int32.toInt8_ofInt]
    apply Int8.toBitVec_inj.mp
    show BitVec.ofInt 8 _ = BitVec.ofInt 8 _
    apply BitVec.eq_of_toInt_eq
    rw [BitVec.toInt_ofInt, BitVec.toInt_ofInt]
    exact Int.emod_bmod ..
  rw [e1, e2]
theorem T_bastoreS {G : GX} {mi : MI} {pc : Nat} {L : List (Nat × Value)} {st : List Value} {M : List va_E} {kc ks : Nat} {Q : Option Value → List va_E → Prop} {a n k : Nat} {f : Nat → Int32} {x : Int32} (hd : decode (mC mi) pc = .ok (.bastore, 1)) (ha : K0 ≤ a) (hm : M[a]? = some (br n f)) (hk : k < n) (hn : n < 2 ^ 31) (kk : TT G mi (pc + 1) L st (M.set a (br n (upd f k x.toInt8.toInt32))) kc ks Q) : TT G mi pc L (.int x.toInt8.toInt32 :: .int (nI k) :: .ref a :: st) M kc ks Q := by
  refine T_bastore hd ha hm (vp_in_nI hk hn) ?_ kk
  rw [nI_clamp (by omega), pk_vb]
set_option maxHeartbeats 8000000 in
theorem x_By_putByte (G : GX) {M : List va_E} {o dt room len : Nat} {D : Nat → Int32} {x : Int32} (ho : M[o]? = some (byO dt len)) (hd : M[dt]? = some (br room D)) (kd : K0 ≤ dt) (hne : o ≠ dt) (hlt : len < room) (hr : room < 2 ^ 30) : CT G mi_By_putByte [.ref o, .int x] M (fun r M' => r = none ∧ M' = (M.set dt (br room (upd D len x.toInt8.toInt32))).set o (byO dt (len + 1))) := by
  refine CT.of (by decide) (Nat.le_of_ble_eq_true rfl) ?_
  show TT G mi_By_putByte 0 [(0, .ref o), (1, .int x)] [] M 0 0 _
  refine T_aload_n (v := .ref o) d_By_putByte_0 rfl (Or.inr ⟨_, rfl⟩) ?_
  refine T_getfield d_By_putByte_1 fg_By_13 ho rfl ?_
  refine T_aload_n (v := .ref o) d_By_putByte_4 rfl (Or.inr ⟨_, rfl⟩) ?_
  refine T_getfield d_By_putByte_5 fg_By_7 ho rfl ?_
  refine T_alen (v := nI room) (ty := .byte) d_By_putByte_8 kd hd rfl rfl ?_
  refine T_icmp_ge d_By_putByte_9 (tgt := 33) rfl (fun c => absurd ((nI_leI (by omega) (by omega)).mp c) (by omega)) (fun _ => ?_)
  refine T_aload_n (v := .ref o) d_By_putByte_12 rfl (Or.inr ⟨_, rfl⟩) ?_
  refine T_getfield d_By_putByte_13 fg_By_7 ho rfl ?_
  refine T_aload_n (v := .ref o) d_By_putByte_16 rfl (Or.inr ⟨_, rfl⟩) ?_
  refine T_getfield d_By_putByte_17 fg_By_13 ho rfl ?_
  refine T_iload_n d_By_putByte_20 rfl ?_
  refine T_i2b d_By_putByte_21 ?_
  refine T_bastoreS d_By_putByte_22 kd hd hlt (by omega) ?_
  have ho' : (M.set dt (br room (upd D len x.toInt8.toInt32)))[o]? = some (byO dt len) := X_ne ho (Ne.symm hne)
  refine T_aload_n (v := .ref o) d_By_putByte_23 rfl (Or.inr ⟨_, rfl⟩) ?_
  refine T_dup d_By_putByte_24 rfl ?_
  refine T_getfield d_By_putByte_25 fg_By_13 ho' rfl ?_
  refine T_iconst (v := nI 1) d_By_putByte_28 (by decide) ?_
  refine T_iadd d_By_putByte_29 ?_
  rw [nI_add]
  refine T_putfield d_By_putByte_30 (fp_By_13 _) ho' (by show 1 < 2; decide) ⟨rfl, rfl⟩ rfl ?_
  exact T_vret d_By_putByte_33 rfl (by decide) (by decide) ⟨rfl, rfl⟩
theorem X_by {N : List va_E} {dt o : Nat} {a b c d : va_E} (h : o ≠ dt) : (((N.set dt a).set o b).set dt c).set o d = (N.set dt c).set o d := by
  rw [List.set_comm _ _ h, List.set_set, List.set_set]
def bq (len k : Nat) (B D : Nat → Int32) : Nat → Int32 := fun j => if len ≤ j ∧ j < len + k then B (j - len) else D j
theorem bq_0 (len : Nat) (B D : Nat → Int32) : bq len 0 B D = D := by funext j; unfold bq; rw [if_neg (by omega)]
theorem bq_up (len k : Nat) (B D : Nat → Int32) : upd (bq len k B D) (len + k) (B k) = bq len (k + 1) B D := by
  funext j
  unfold upd bq
  by_cases h : j = len + k
  · subst h
    rw [if_pos rfl, if_pos (by omega), show len + k - len = k by omega]
  · rw [if_neg h]
    by_cases h2 : len ≤ j ∧ j < len + k
    · rw [if_pos h2, if_pos (by omega)]
    · rw [if_neg h2, if_neg (by omega)]
set_option maxHeartbeats 8000000 in
theorem orstep (h x : Int64) (b : Nat) (hb : b ≤ 30) (h0 : 0 ≤ h.toInt ∧ h.toInt < 2 ^ b) (hx : 0 ≤ x.toInt ∧ x.toInt < 2 ^ 26) : (h ||| (x <<< ((nI b).toInt64 &&& 63))).toInt = h.toInt + x.toInt * 2 ^ b := by
  have hs : (((nI b).toInt64 &&& 63 : Int64).toBitVec.smod 64).toNat = b := by
    have : b = 0 ∨ b = 1 ∨ b = 2 ∨ b = 3 ∨ b = 4 ∨ b = 5 ∨ b = 6 ∨ b = 7 ∨ b = 8 ∨ b = 9 ∨ b = 10 ∨ b = 11 ∨ b = 12 ∨ b = 13 ∨ b = 14 ∨ b = 15 ∨ b = 16 ∨ b = 17 ∨ b = 18 ∨ b = 19 ∨ b = 20 ∨ b = 21 ∨ b = 22 ∨ b = 23 ∨ b = 24 ∨ b = 25 ∨ b = 26 ∨ b = 27 ∨ b = 28 ∨ b = 29 ∨ b = 30 := by omega
    rcases this with rfl | rfl | rfl | rfl | rfl | rfl | rfl | rfl | rfl | rfl | rfl | rfl | rfl | rfl | rfl | rfl | rfl | rfl | rfl | rfl | rfl | rfl | rfl | rfl | rfl | rfl | rfl | rfl | rfl | rfl | rfl <;> decide
  have hn := i64_nn h0.1
  have hxn := i64_nn hx.1
  have hp : ((2 ^ b : Nat) : Int) = 2 ^ b := by norm_cast
  have hlt : h.toBitVec.toNat < 2 ^ b := by have := h0.2; rw [← hp] at this; omega
  have hpow : (2 : Nat) ^ b ≤ 2 ^ 30 := Nat.pow_le_pow_right (by decide) hb
  have hxl : x.toBitVec.toNat < 2 ^ 26 := by omega
  have hsm : x.toBitVec.toNat * 2 ^ b < 2 ^ 60 := by
    calc x.toBitVec.toNat * 2 ^ b ≤ 2 ^ 26 * 2 ^ 30 := Nat.mul_le_mul (by omega) hpow
      _ < 2 ^ 60 := by decide
  have key : (h ||| (x <<< ((nI b).toInt64 &&& 63))).toBitVec.toNat = h.toBitVec.toNat + x.toBitVec.toNat * 2 ^ b := by
    rw [Int64.toBitVec_or, BitVec.toNat_or, Int64.toBitVec_shiftLeft, BitVec.shiftLeft_eq', hs, BitVec.toNat_shiftLeft, Nat.shiftLeft_eq]
    rw [Nat.mod_eq_of_lt (by omega), ← Nat.shiftLeft_eq, Nat.or_comm, ← Nat.shiftLeft_add_eq_or_of_lt hlt, Nat.shiftLeft_eq, Nat.add_comm]
  rw [i64_of key (by omega), hn, hxn, Int.natCast_add, Int.natCast_mul, hp]
theorem rl3 {u H x : Int} (k n : Nat) (e : u = H + x * 2 ^ k) (h : 0 ≤ H ∧ H < 2 ^ k) (hx : 0 ≤ x ∧ x < 2 ^ n) : 0 ≤ u ∧ u < 2 ^ (k + n) := by
  have hp : (0 : Int) < 2 ^ k := Int.pow_pos (by decide)
  have h1 : 0 ≤ x * 2 ^ k := Int.mul_nonneg hx.1 (Int.le_of_lt hp)
  have h2 : x * 2 ^ k ≤ (2 ^ n - 1) * 2 ^ k := Int.mul_le_mul_of_nonneg_right (by omega) (Int.le_of_lt hp)
  have h3 : (2 ^ n - 1) * 2 ^ k = (2 : Int) ^ (k + n) - 2 ^ k := by rw [Int.pow_add]; grind
  omega
theorem s8_ : (((nI 8).toInt64 &&& 63 : Int64).toBitVec.smod 64).toNat = 8 := by decide
set_option maxRecDepth 100000 in
set_option maxHeartbeats 4000000 in
theorem x_Fi_save (G : GX) {M : List va_E} {f o dt room len n : Nat} {W F : Nat → Int64} {D : Nat → Int32} {x : Int} (hob : M[78]? = some (.inr (6, [.ref 79, .ref 80, .ref 81, .ref 82, .ref 83, .ref 84, .ref 85]))) (hw : M[79]? = some (lr 10 W)) (hf : M[f]? = some (lr 10 F)) (hV : V10 F x n) (hn : n ≤ 100) (ho : M[o]? = some (byO dt len)) (hd : M[dt]? = some (br room D)) (kd : K0 ≤ dt) (hne : o ≠ dt) (hr : len + 32 ≤ room) (hr2 : room < 2 ^ 30) (n1 : o ≠ 78) (n2 : o ≠ 79) (n3 : dt ≠ 78) (n4 : dt ≠ 79) : CT G mi_Fi_save [.ref 78, .ref f, .ref o] M (fun r M' => r = none ∧ ∃ W', M' = ((M.set 79 (lr 10 W')).set dt (br room (bq len 32 (fun k => sb ((x % pP) / 256 ^ k % 256)) D))).set o (byO dt (len + 32))) := by
  refine CT.of (by decide) (Nat.le_of_ble_eq_true rfl) ?_
  show TT G mi_Fi_save 0 [(0, .ref 78), (1, .ref f), (2, .ref o)] [] M 0 0 _
  refine T_aload_n (v := .ref 78) d_Fi_save_0 rfl (Or.inr ⟨_, rfl⟩) ?_
  refine T_aload_n (v := .ref f) d_Fi_save_1 rfl (Or.inr ⟨_, rfl⟩) ?_
  refine T_virtual (as := [.ref f]) (rest := []) (b := 78) d_Fi_save_2 rfl (jw_Fi_makeWhole.jo (by decide)) lm_Fi_43 ji_Fi_makeWhole js_Fi_makeWhole hob rfl rfl rfl (Nat.le_of_ble_eq_true rfl) (by decide) (by decide) (x_Fi_makeWhole G hob hw hf) (fun r M' hq => ?_)
  rw [hq.1, hq.2]
  clear hq r M'
  obtain ⟨k0, k1, k2, k3, k4, k5, k6, k7, k8, k9⟩ := mkC_V hn (hV.lp0 (W := W))
  generalize (mkC (lp 10 F W) 4).2 = W1 at *
  obtain ⟨X, hX⟩ : ∃ z : Int, z = x % pP := ⟨_, rfl⟩
  have hX0 : 0 ≤ X := by rw [hX]; exact Int.emod_nonneg x (by decide)
  have hX1 : X < pP := by rw [hX]; exact Int.emod_lt_of_pos x pP_pos
  rw [← hX] at k0 k1 k2 k3 k4 k5 k6 k7 k8 k9 ⊢
  clear hX
  have hsum := dsum10 X
  rw [← k0, ← k1, ← k2, ← k3, ← k4, ← k5, ← k6, ← k7, ← k8, ← k9, Int.emod_eq_of_lt hX0 (by unfold pP at hX1; omega)] at hsum
  have g0 : 0 ≤ (W1 0).toInt ∧ (W1 0).toInt < 2 ^ 26 := by rw [k0]; exact ⟨Int.emod_nonneg _ (by decide), Int.emod_lt_of_pos _ (by decide)⟩
  have g1 : 0 ≤ (W1 1).toInt ∧ (W1 1).toInt < 2 ^ 25 := by rw [k1]; exact ⟨Int.emod_nonneg _ (by decide), Int.emod_lt_of_pos _ (by decide)⟩
  have g2 : 0 ≤ (W1 2).toInt ∧ (W1 2).toInt < 2 ^ 26 := by rw [k2]; exact ⟨Int.emod_nonneg _ (by decide), Int.emod_lt_of_pos _ (by decide)⟩
  have g3 : 0 ≤ (W1 3).toInt ∧ (W1 3).toInt < 2 ^ 25 := by rw [k3]; exact ⟨Int.emod_nonneg _ (by decide), Int.emod_lt_of_pos _ (by decide)⟩
  have g4 : 0 ≤ (W1 4).toInt ∧ (W1 4).toInt < 2 ^ 26 := by rw [k4]; exact ⟨Int.emod_nonneg _ (by decide), Int.emod_lt_of_pos _ (by decide)⟩
  have g5 : 0 ≤ (W1 5).toInt ∧ (W1 5).toInt < 2 ^ 25 := by rw [k5]; exact ⟨Int.emod_nonneg _ (by decide), Int.emod_lt_of_pos _ (by decide)⟩
  have g6 : 0 ≤ (W1 6).toInt ∧ (W1 6).toInt < 2 ^ 26 := by rw [k6]; exact ⟨Int.emod_nonneg _ (by decide), Int.emod_lt_of_pos _ (by decide)⟩
  have g7 : 0 ≤ (W1 7).toInt ∧ (W1 7).toInt < 2 ^ 25 := by rw [k7]; exact ⟨Int.emod_nonneg _ (by decide), Int.emod_lt_of_pos _ (by decide)⟩
  have g8 : 0 ≤ (W1 8).toInt ∧ (W1 8).toInt < 2 ^ 26 := by rw [k8]; exact ⟨Int.emod_nonneg _ (by decide), Int.emod_lt_of_pos _ (by decide)⟩
  have g9 : 0 ≤ (W1 9).toInt ∧ (W1 9).toInt < 2 ^ 25 := by rw [k9]; exact ⟨Int.emod_nonneg _ (by decide), Int.emod_lt_of_pos _ (by decide)⟩
  clear k0
  clear k1
  clear k2
  clear k3
  clear k4
  clear k5
  clear k6
  clear k7
  clear k8
  clear k9
  have hl := X_len hw
  obtain ⟨N, hN⟩ : ∃ z : List va_E, z = M.set 79 (lr 10 W1) := ⟨_, rfl⟩
  have N1 : N[78]? = some (.inr (6, [.ref 79, .ref 80, .ref 81, .ref 82, .ref 83, .ref 84, .ref 85])) := by rw [hN]; exact X_ne hob (by decide)
  have N2 : N[79]? = some (lr 10 W1) := by rw [hN]; exact List.getElem?_set_self hl
  have N3 : N[o]? = some (byO dt len) := by rw [hN]; exact X_ne ho (Ne.symm n2)
  have N4 : N[dt]? = some (br room D) := by rw [hN]; exact X_ne hd (Ne.symm n4)
  suffices hS : TT G mi_Fi_save 5 [(0, .ref 78), (1, .ref f), (2, .ref o)] [] N 0 0 (fun r M' => r = none ∧ M' = (N.set dt (br room (bq len 32 (fun k => sb (X / 256 ^ k % 256)) D))).set o (byO dt (len + 32))) by
    rw [← hN]
    exact T_post (fun r M' h => ⟨h.1, W1, by rw [h.2, hN]⟩) hS
  clear hN hob hw hf ho hd hl
  have lo := X_len N3; have ld := X_len N4
  have bo : ∀ (B : Nat → Int32) (k : Nat), ((N.set dt (br room B)).set o (byO dt k))[o]? = some (byO dt k) := fun B k => List.getElem?_set_self (by rw [List.length_set]; exact lo)
  have bd : ∀ (B : Nat → Int32) (k : Nat), ((N.set dt (br room B)).set o (byO dt k))[dt]? = some (br room B) := fun B k => X_ne (List.getElem?_set_self ld) hne
  have b8 : ∀ (B : Nat → Int32) (k : Nat), ((N.set dt (br room B)).set o (byO dt k))[78]? = some (.inr (6, [.ref 79, .ref 80, .ref 81, .ref 82, .ref 83, .ref 84, .ref 85])) := fun B k => X_ne (X_ne N1 n3) n1
  have b9 : ∀ (B : Nat → Int32) (k : Nat), ((N.set dt (br room B)).set o (byO dt k))[79]? = some (lr 10 W1) := fun B k => X_ne (X_ne N2 n4) n2
  obtain ⟨Bv, hBv⟩ : ∃ z : Nat → Int32, z = fun k => sb (X / 256 ^ k % 256) := ⟨_, rfl⟩
  rw [← hBv]
  refine T_eq (M' := (N.set dt (br room (bq len 0 Bv D))).set o (byO dt (len + 0))) rfl rfl rfl (by rw [bq_0, ← X_same N4]; exact X_same N3) ?_
  obtain ⟨S0, s0⟩ : ∃ z : Int, z = 0 := ⟨_, rfl⟩
  obtain ⟨S1, s1⟩ : ∃ z : Int, z = S0 + (W1 0).toInt * 1 := ⟨_, rfl⟩
  obtain ⟨S2, s2⟩ : ∃ z : Int, z = S1 + (W1 1).toInt * 67108864 := ⟨_, rfl⟩
  obtain ⟨S3, s3⟩ : ∃ z : Int, z = S2 + (W1 2).toInt * 2251799813685248 := ⟨_, rfl⟩
  obtain ⟨S4, s4⟩ : ∃ z : Int, z = S3 + (W1 3).toInt * 151115727451828646838272 := ⟨_, rfl⟩
  obtain ⟨S5, s5⟩ : ∃ z : Int, z = S4 + (W1 4).toInt * 5070602400912917605986812821504 := ⟨_, rfl⟩
  obtain ⟨S6, s6⟩ : ∃ z : Int, z = S5 + (W1 5).toInt * 340282366920938463463374607431768211456 := ⟨_, rfl⟩
  obtain ⟨S7, s7⟩ : ∃ z : Int, z = S6 + (W1 6).toInt * 11417981541647679048466287755595961091061972992 := ⟨_, rfl⟩
  obtain ⟨S8, s8⟩ : ∃ z : Int, z = S7 + (W1 7).toInt * 766247770432944429179173513575154591809369561091801088 := ⟨_, rfl⟩
  obtain ⟨S9, s9⟩ : ∃ z : Int, z = S8 + (W1 8).toInt * 25711008708143844408671393477458601640355247900524685364822016 := ⟨_, rfl⟩
  obtain ⟨S10, s10⟩ : ∃ z : Int, z = S9 + (W1 9).toInt * 1725436586697640946858688965569256363112777243042596638790631055949824 := ⟨_, rfl⟩
  have n10_ : X = S10 := by rw [s10, s9, s8, s7, s6, s5, s4, s3, s2, s1, s0, ← hsum]; simp
  clear hsum hX1
  have n10 : ∃ R : Int, X = S10 + 57896044618658097711785492504343953926634992332820282019728792003956564819968 * R := ⟨0, by rw [n10_]; simp⟩
  have n9 : ∃ R : Int, X = S9 + 1725436586697640946858688965569256363112777243042596638790631055949824 * R := by obtain ⟨R, hR⟩ := n10; exact ⟨(W1 9).toInt + 33554432 * R, by rw [hR, s10]; grind⟩
  have n8 : ∃ R : Int, X = S8 + 25711008708143844408671393477458601640355247900524685364822016 * R := by obtain ⟨R, hR⟩ := n9; exact ⟨(W1 8).toInt + 67108864 * R, by rw [hR, s9]; grind⟩
  have n7 : ∃ R : Int, X = S7 + 766247770432944429179173513575154591809369561091801088 * R := by obtain ⟨R, hR⟩ := n8; exact ⟨(W1 7).toInt + 33554432 * R, by rw [hR, s8]; grind⟩
  have n6 : ∃ R : Int, X = S6 + 11417981541647679048466287755595961091061972992 * R := by obtain ⟨R, hR⟩ := n7; exact ⟨(W1 6).toInt + 67108864 * R, by rw [hR, s7]; grind⟩
  have n5 : ∃ R : Int, X = S5 + 340282366920938463463374607431768211456 * R := by obtain ⟨R, hR⟩ := n6; exact ⟨(W1 5).toInt + 33554432 * R, by rw [hR, s6]; grind⟩
  have n4 : ∃ R : Int, X = S4 + 5070602400912917605986812821504 * R := by obtain ⟨R, hR⟩ := n5; exact ⟨(W1 4).toInt + 67108864 * R, by rw [hR, s5]; grind⟩
  have n3 : ∃ R : Int, X = S3 + 151115727451828646838272 * R := by obtain ⟨R, hR⟩ := n4; exact ⟨(W1 3).toInt + 33554432 * R, by rw [hR, s4]; grind⟩
  have n2 : ∃ R : Int, X = S2 + 2251799813685248 * R := by obtain ⟨R, hR⟩ := n3; exact ⟨(W1 2).toInt + 67108864 * R, by rw [hR, s3]; grind⟩
  have n1 : ∃ R : Int, X = S1 + 67108864 * R := by obtain ⟨R, hR⟩ := n2; exact ⟨(W1 1).toInt + 33554432 * R, by rw [hR, s2]; grind⟩
  refine T_lconst (v := 0) d_Fi_save_5 (by decide) ?_
  refine T_lstore_n (L' := [(3, .long 0), (0, .ref 78), (1, .ref f), (2, .ref o)]) d_Fi_save_6 (by decide) rfl ?_
  refine T_iconst (v := nI 0) d_Fi_save_7 (by decide) ?_
  refine T_istore (L' := [(5, .int (nI 0)), (3, .long 0), (0, .ref 78), (1, .ref f), (2, .ref o)]) d_Fi_save_8 (by decide) rfl ?_
  refine T_iconst (v := nI 0) d_Fi_save_10 (by decide) ?_
  refine T_istore (L' := [(6, .int (nI 0)), (5, .int (nI 0)), (3, .long 0), (0, .ref 78), (1, .ref f), (2, .ref o)]) d_Fi_save_11 (by decide) rfl ?_
  have rg : 0 ≤ (0 : Int64).toInt ∧ (0 : Int64).toInt < 2 ^ 0 := by decide
  have hv : (0 : Int64).toInt = S0 / 1 := by rw [s0]; rfl
  refine T_iload d_Fi_save_13 rfl ?_
  refine T_bipush (v := nI 10) d_Fi_save_15 (by decide) ?_
  refine T_icmp_ge d_Fi_save_17 (tgt := 75) rfl (fun c => absurd c (by decide)) (fun _ => ?_)
  refine T_lload_n d_Fi_save_20 rfl ?_
  refine T_aload_n (v := .ref 78) d_Fi_save_21 rfl (Or.inr ⟨_, rfl⟩) ?_
  refine T_getfield d_Fi_save_22 fg_Fi_9 (b8 _ _) rfl ?_
  refine T_iload d_Fi_save_25 rfl ?_
  refine T_laload d_Fi_save_27 (b9 _ _) (vp_in_nI (by decide) (by decide)) ?_
  refine T_eq (st' := [.long (W1 0), .long (0 : Int64)]) rfl rfl rfl rfl ?_
  refine T_iload d_Fi_save_28 rfl ?_
  refine T_lshl d_Fi_save_30 ?_
  refine T_lor d_Fi_save_31 ?_
  have st0 := orstep (0 : Int64) (W1 0) 0 (by decide) rg ⟨g0.1, Int.lt_of_lt_of_le g0.2 (by decide)⟩
  refine T_topl (fun u0 eu0 => ?_)
  rw [← eu0] at st0
  clear eu0
  have rg0 : 0 ≤ u0.toInt ∧ u0.toInt < 2 ^ 26 := rl3 0 26 st0 rg g0
  have hv0 : u0.toInt = S1 / 1 := by rw [st0, hv, s1]; exact (ls2 (by decide) (by decide)).symm
  refine T_lstore_n (L' := [(3, .long u0), (6, .int (nI 0)), (5, .int (nI 0)), (0, .ref 78), (1, .ref f), (2, .ref o)]) d_Fi_save_32 (by decide) rfl ?_
  refine T_iload d_Fi_save_33 rfl ?_
  refine T_bipush (v := nI 26) d_Fi_save_35 (by decide) ?_
  refine T_iload d_Fi_save_37 rfl ?_
  refine T_iconst (v := nI 1) d_Fi_save_39 (by decide) ?_
  refine T_iand d_Fi_save_40 ?_
  refine T_isub d_Fi_save_41 ?_
  refine T_iadd d_Fi_save_42 ?_
  refine T_eq (st' := [.int (nI 26)]) rfl rfl rfl rfl ?_
  refine T_istore (L' := [(5, .int (nI 26)), (3, .long u0), (6, .int (nI 0)), (0, .ref 78), (1, .ref f), (2, .ref o)]) d_Fi_save_43 (by decide) rfl ?_
  refine T_iload d_Fi_save_45 rfl ?_
  refine T_bipush (v := nI 8) d_Fi_save_47 (by decide) ?_
  refine T_icmp_lt d_Fi_save_49 (tgt := 69) rfl (fun c => absurd c (by decide)) (fun _ => ?_)
  refine T_aload_n (v := .ref o) d_Fi_save_52 rfl (Or.inr ⟨_, rfl⟩) ?_
  refine T_lload_n d_Fi_save_53 rfl ?_
  refine T_l2i d_Fi_save_54 ?_
  refine T_virtual (as := [.int u0.toInt32]) (rest := []) (b := o) d_Fi_save_55 rfl (jw_By_putByte.jo (by decide)) lm_Fi_47 ji_By_putByte js_By_putByte (bo _ _) rfl rfl rfl (Nat.le_of_ble_eq_true rfl) (by decide) (by decide) (x_By_putByte G (bo _ _) (bd _ _) kd hne (show len + 0 < room by omega) hr2) (fun r M' hq => ?_)
  have eb : u0.toInt32.toInt8.toInt32 = Bv 0 := by
    rw [sb_of, hBv]
    show sb (u0.toInt % 256) = sb (X / 256 ^ 0 % 256)
    obtain ⟨R, hR⟩ := n1
    rw [hv0]; congr 1
    exact ls3 (d := 262144) hR (by decide) (by decide)
  rw [hq.1, hq.2, X_by hne, eb, bq_up len 0 Bv D]
  clear hq r M' eb
  refine T_eq (pc' := 58) (L' := [(5, .int (nI 26)), (3, .long u0), (6, .int (nI 0)), (0, .ref 78), (1, .ref f), (2, .ref o)]) (st' := []) (M' := (N.set dt (br room (bq len 1 Bv D))).set o (byO dt (len + 1))) rfl rfl rfl rfl ?_
  refine T_lload_n d_Fi_save_58 rfl ?_
  refine T_bipush (v := nI 8) d_Fi_save_59 (by decide) ?_
  refine T_lshr d_Fi_save_61 ?_
  refine T_topl (fun q1 eq1 => ?_)
  have tq1 : q1.toInt = u0.toInt / 256 := by rw [eq1]; exact nn_shr s8_ rg0 (by decide)
  clear eq1
  have rq1 : 0 ≤ q1.toInt ∧ q1.toInt < 2 ^ 18 := rl2 8 18 tq1 rg0
  have hq1 : q1.toInt = S1 / 256 := by rw [tq1, hv0, Int.ediv_ediv_of_nonneg (by decide)]; rfl
  refine T_lstore_n (L' := [(3, .long q1), (5, .int (nI 26)), (6, .int (nI 0)), (0, .ref 78), (1, .ref f), (2, .ref o)]) d_Fi_save_62 (by decide) rfl ?_
  refine T_iinc (x := nI 26) (L' := [(5, .int (nI 18)), (3, .long q1), (6, .int (nI 0)), (0, .ref 78), (1, .ref f), (2, .ref o)]) d_Fi_save_63 (by decide) rfl rfl ?_
  refine T_goto (tgt := 45) d_Fi_save_66 rfl ?_
  refine T_iload d_Fi_save_45 rfl ?_
  refine T_bipush (v := nI 8) d_Fi_save_47 (by decide) ?_
  refine T_icmp_lt d_Fi_save_49 (tgt := 69) rfl (fun c => absurd c (by decide)) (fun _ => ?_)
  refine T_aload_n (v := .ref o) d_Fi_save_52 rfl (Or.inr ⟨_, rfl⟩) ?_
  refine T_lload_n d_Fi_save_53 rfl ?_
  refine T_l2i d_Fi_save_54 ?_
  refine T_virtual (as := [.int q1.toInt32]) (rest := []) (b := o) d_Fi_save_55 rfl (jw_By_putByte.jo (by decide)) lm_Fi_47 ji_By_putByte js_By_putByte (bo _ _) rfl rfl rfl (Nat.le_of_ble_eq_true rfl) (by decide) (by decide) (x_By_putByte G (bo _ _) (bd _ _) kd hne (show len + 1 < room by omega) hr2) (fun r M' hq => ?_)
  have eb : q1.toInt32.toInt8.toInt32 = Bv 1 := by
    rw [sb_of, hBv]
    show sb (q1.toInt % 256) = sb (X / 256 ^ 1 % 256)
    obtain ⟨R, hR⟩ := n1
    rw [hq1]; congr 1
    exact ls3 (d := 1024) hR (by decide) (by decide)
  rw [hq.1, hq.2, X_by hne, eb, bq_up len 1 Bv D]
  clear hq r M' eb
  refine T_eq (pc' := 58) (L' := [(5, .int (nI 18)), (3, .long q1), (6, .int (nI 0)), (0, .ref 78), (1, .ref f), (2, .ref o)]) (st' := []) (M' := (N.set dt (br room (bq len 2 Bv D))).set o (byO dt (len + 2))) rfl rfl rfl rfl ?_
  refine T_lload_n d_Fi_save_58 rfl ?_
  refine T_bipush (v := nI 8) d_Fi_save_59 (by decide) ?_
  refine T_lshr d_Fi_save_61 ?_
  refine T_topl (fun q2 eq2 => ?_)
  have tq2 : q2.toInt = q1.toInt / 256 := by rw [eq2]; exact nn_shr s8_ rq1 (by decide)
  clear eq2
  have rq2 : 0 ≤ q2.toInt ∧ q2.toInt < 2 ^ 10 := rl2 8 10 tq2 rq1
  have hq2 : q2.toInt = S1 / 65536 := by rw [tq2, hq1, Int.ediv_ediv_of_nonneg (by decide)]; rfl
  refine T_lstore_n (L' := [(3, .long q2), (5, .int (nI 18)), (6, .int (nI 0)), (0, .ref 78), (1, .ref f), (2, .ref o)]) d_Fi_save_62 (by decide) rfl ?_
  refine T_iinc (x := nI 18) (L' := [(5, .int (nI 10)), (3, .long q2), (6, .int (nI 0)), (0, .ref 78), (1, .ref f), (2, .ref o)]) d_Fi_save_63 (by decide) rfl rfl ?_
  refine T_goto (tgt := 45) d_Fi_save_66 rfl ?_
  refine T_iload d_Fi_save_45 rfl ?_
  refine T_bipush (v := nI 8) d_Fi_save_47 (by decide) ?_
  refine T_icmp_lt d_Fi_save_49 (tgt := 69) rfl (fun c => absurd c (by decide)) (fun _ => ?_)
  refine T_aload_n (v := .ref o) d_Fi_save_52 rfl (Or.inr ⟨_, rfl⟩) ?_
  refine T_lload_n d_Fi_save_53 rfl ?_
  refine T_l2i d_Fi_save_54 ?_
  refine T_virtual (as := [.int q2.toInt32]) (rest := []) (b := o) d_Fi_save_55 rfl (jw_By_putByte.jo (by decide)) lm_Fi_47 ji_By_putByte js_By_putByte (bo _ _) rfl rfl rfl (Nat.le_of_ble_eq_true rfl) (by decide) (by decide) (x_By_putByte G (bo _ _) (bd _ _) kd hne (show len + 2 < room by omega) hr2) (fun r M' hq => ?_)
  have eb : q2.toInt32.toInt8.toInt32 = Bv 2 := by
    rw [sb_of, hBv]
    show sb (q2.toInt % 256) = sb (X / 256 ^ 2 % 256)
    obtain ⟨R, hR⟩ := n1
    rw [hq2]; congr 1
    exact ls3 (d := 4) hR (by decide) (by decide)
  rw [hq.1, hq.2, X_by hne, eb, bq_up len 2 Bv D]
  clear hq r M' eb
  refine T_eq (pc' := 58) (L' := [(5, .int (nI 10)), (3, .long q2), (6, .int (nI 0)), (0, .ref 78), (1, .ref f), (2, .ref o)]) (st' := []) (M' := (N.set dt (br room (bq len 3 Bv D))).set o (byO dt (len + 3))) rfl rfl rfl rfl ?_
  refine T_lload_n d_Fi_save_58 rfl ?_
  refine T_bipush (v := nI 8) d_Fi_save_59 (by decide) ?_
  refine T_lshr d_Fi_save_61 ?_
  refine T_topl (fun q3 eq3 => ?_)
  have tq3 : q3.toInt = q2.toInt / 256 := by rw [eq3]; exact nn_shr s8_ rq2 (by decide)
  clear eq3
  have rq3 : 0 ≤ q3.toInt ∧ q3.toInt < 2 ^ 2 := rl2 8 2 tq3 rq2
  have hq3 : q3.toInt = S1 / 16777216 := by rw [tq3, hq2, Int.ediv_ediv_of_nonneg (by decide)]; rfl
  refine T_lstore_n (L' := [(3, .long q3), (5, .int (nI 10)), (6, .int (nI 0)), (0, .ref 78), (1, .ref f), (2, .ref o)]) d_Fi_save_62 (by decide) rfl ?_
  refine T_iinc (x := nI 10) (L' := [(5, .int (nI 2)), (3, .long q3), (6, .int (nI 0)), (0, .ref 78), (1, .ref f), (2, .ref o)]) d_Fi_save_63 (by decide) rfl rfl ?_
  refine T_goto (tgt := 45) d_Fi_save_66 rfl ?_
  refine T_iload d_Fi_save_45 rfl ?_
  refine T_bipush (v := nI 8) d_Fi_save_47 (by decide) ?_
  refine T_icmp_lt d_Fi_save_49 (tgt := 69) rfl (fun _ => ?_) (fun c => absurd (by decide) c)
  refine T_iinc (x := nI 0) (L' := [(6, .int (nI 1)), (5, .int (nI 2)), (3, .long q3), (0, .ref 78), (1, .ref f), (2, .ref o)]) d_Fi_save_69 (by decide) rfl rfl ?_
  refine T_goto (tgt := 13) d_Fi_save_72 rfl ?_
  refine T_iload d_Fi_save_13 rfl ?_
  refine T_bipush (v := nI 10) d_Fi_save_15 (by decide) ?_
  refine T_icmp_ge d_Fi_save_17 (tgt := 75) rfl (fun c => absurd c (by decide)) (fun _ => ?_)
  refine T_lload_n d_Fi_save_20 rfl ?_
  refine T_aload_n (v := .ref 78) d_Fi_save_21 rfl (Or.inr ⟨_, rfl⟩) ?_
  refine T_getfield d_Fi_save_22 fg_Fi_9 (b8 _ _) rfl ?_
  refine T_iload d_Fi_save_25 rfl ?_
  refine T_laload d_Fi_save_27 (b9 _ _) (vp_in_nI (by decide) (by decide)) ?_
  refine T_eq (st' := [.long (W1 1), .long q3]) rfl rfl rfl rfl ?_
  refine T_iload d_Fi_save_28 rfl ?_
  refine T_lshl d_Fi_save_30 ?_
  refine T_lor d_Fi_save_31 ?_
  have st1 := orstep q3 (W1 1) 2 (by decide) rq3 ⟨g1.1, Int.lt_of_lt_of_le g1.2 (by decide)⟩
  refine T_topl (fun u1 eu1 => ?_)
  rw [← eu1] at st1
  clear eu1
  have rg1 : 0 ≤ u1.toInt ∧ u1.toInt < 2 ^ 27 := rl3 2 25 st1 rq3 g1
  have hv1 : u1.toInt = S2 / 16777216 := by rw [st1, hq3, s2]; exact (ls2 (by decide) (by decide)).symm
  refine T_lstore_n (L' := [(3, .long u1), (6, .int (nI 1)), (5, .int (nI 2)), (0, .ref 78), (1, .ref f), (2, .ref o)]) d_Fi_save_32 (by decide) rfl ?_
  refine T_iload d_Fi_save_33 rfl ?_
  refine T_bipush (v := nI 26) d_Fi_save_35 (by decide) ?_
  refine T_iload d_Fi_save_37 rfl ?_
  refine T_iconst (v := nI 1) d_Fi_save_39 (by decide) ?_
  refine T_iand d_Fi_save_40 ?_
  refine T_isub d_Fi_save_41 ?_
  refine T_iadd d_Fi_save_42 ?_
  refine T_eq (st' := [.int (nI 27)]) rfl rfl rfl rfl ?_
  refine T_istore (L' := [(5, .int (nI 27)), (3, .long u1), (6, .int (nI 1)), (0, .ref 78), (1, .ref f), (2, .ref o)]) d_Fi_save_43 (by decide) rfl ?_
  refine T_iload d_Fi_save_45 rfl ?_
  refine T_bipush (v := nI 8) d_Fi_save_47 (by decide) ?_
  refine T_icmp_lt d_Fi_save_49 (tgt := 69) rfl (fun c => absurd c (by decide)) (fun _ => ?_)
  refine T_aload_n (v := .ref o) d_Fi_save_52 rfl (Or.inr ⟨_, rfl⟩) ?_
  refine T_lload_n d_Fi_save_53 rfl ?_
  refine T_l2i d_Fi_save_54 ?_
  refine T_virtual (as := [.int u1.toInt32]) (rest := []) (b := o) d_Fi_save_55 rfl (jw_By_putByte.jo (by decide)) lm_Fi_47 ji_By_putByte js_By_putByte (bo _ _) rfl rfl rfl (Nat.le_of_ble_eq_true rfl) (by decide) (by decide) (x_By_putByte G (bo _ _) (bd _ _) kd hne (show len + 3 < room by omega) hr2) (fun r M' hq => ?_)
  have eb : u1.toInt32.toInt8.toInt32 = Bv 3 := by
    rw [sb_of, hBv]
    show sb (u1.toInt % 256) = sb (X / 256 ^ 3 % 256)
    obtain ⟨R, hR⟩ := n2
    rw [hv1]; congr 1
    exact ls3 (d := 524288) hR (by decide) (by decide)
  rw [hq.1, hq.2, X_by hne, eb, bq_up len 3 Bv D]
  clear hq r M' eb
  refine T_eq (pc' := 58) (L' := [(5, .int (nI 27)), (3, .long u1), (6, .int (nI 1)), (0, .ref 78), (1, .ref f), (2, .ref o)]) (st' := []) (M' := (N.set dt (br room (bq len 4 Bv D))).set o (byO dt (len + 4))) rfl rfl rfl rfl ?_
  refine T_lload_n d_Fi_save_58 rfl ?_
  refine T_bipush (v := nI 8) d_Fi_save_59 (by decide) ?_
  refine T_lshr d_Fi_save_61 ?_
  refine T_topl (fun q4 eq4 => ?_)
  have tq4 : q4.toInt = u1.toInt / 256 := by rw [eq4]; exact nn_shr s8_ rg1 (by decide)
  clear eq4
  have rq4 : 0 ≤ q4.toInt ∧ q4.toInt < 2 ^ 19 := rl2 8 19 tq4 rg1
  have hq4 : q4.toInt = S2 / 4294967296 := by rw [tq4, hv1, Int.ediv_ediv_of_nonneg (by decide)]; rfl
  refine T_lstore_n (L' := [(3, .long q4), (5, .int (nI 27)), (6, .int (nI 1)), (0, .ref 78), (1, .ref f), (2, .ref o)]) d_Fi_save_62 (by decide) rfl ?_
  refine T_iinc (x := nI 27) (L' := [(5, .int (nI 19)), (3, .long q4), (6, .int (nI 1)), (0, .ref 78), (1, .ref f), (2, .ref o)]) d_Fi_save_63 (by decide) rfl rfl ?_
  refine T_goto (tgt := 45) d_Fi_save_66 rfl ?_
  refine T_iload d_Fi_save_45 rfl ?_
  refine T_bipush (v := nI 8) d_Fi_save_47 (by decide) ?_
  refine T_icmp_lt d_Fi_save_49 (tgt := 69) rfl (fun c => absurd c (by decide)) (fun _ => ?_)
  refine T_aload_n (v := .ref o) d_Fi_save_52 rfl (Or.inr ⟨_, rfl⟩) ?_
  refine T_lload_n d_Fi_save_53 rfl ?_
  refine T_l2i d_Fi_save_54 ?_
  refine T_virtual (as := [.int q4.toInt32]) (rest := []) (b := o) d_Fi_save_55 rfl (jw_By_putByte.jo (by decide)) lm_Fi_47 ji_By_putByte js_By_putByte (bo _ _) rfl rfl rfl (Nat.le_of_ble_eq_true rfl) (by decide) (by decide) (x_By_putByte G (bo _ _) (bd _ _) kd hne (show len + 4 < room by omega) hr2) (fun r M' hq => ?_)
  have eb : q4.toInt32.toInt8.toInt32 = Bv 4 := by
    rw [sb_of, hBv]
    show sb (q4.toInt % 256) = sb (X / 256 ^ 4 % 256)
    obtain ⟨R, hR⟩ := n2
    rw [hq4]; congr 1
    exact ls3 (d := 2048) hR (by decide) (by decide)
  rw [hq.1, hq.2, X_by hne, eb, bq_up len 4 Bv D]
  clear hq r M' eb
  refine T_eq (pc' := 58) (L' := [(5, .int (nI 19)), (3, .long q4), (6, .int (nI 1)), (0, .ref 78), (1, .ref f), (2, .ref o)]) (st' := []) (M' := (N.set dt (br room (bq len 5 Bv D))).set o (byO dt (len + 5))) rfl rfl rfl rfl ?_
  refine T_lload_n d_Fi_save_58 rfl ?_
  refine T_bipush (v := nI 8) d_Fi_save_59 (by decide) ?_
  refine T_lshr d_Fi_save_61 ?_
  refine T_topl (fun q5 eq5 => ?_)
  have tq5 : q5.toInt = q4.toInt / 256 := by rw [eq5]; exact nn_shr s8_ rq4 (by decide)
  clear eq5
  have rq5 : 0 ≤ q5.toInt ∧ q5.toInt < 2 ^ 11 := rl2 8 11 tq5 rq4
  have hq5 : q5.toInt = S2 / 1099511627776 := by rw [tq5, hq4, Int.ediv_ediv_of_nonneg (by decide)]; rfl
  refine T_lstore_n (L' := [(3, .long q5), (5, .int (nI 19)), (6, .int (nI 1)), (0, .ref 78), (1, .ref f), (2, .ref o)]) d_Fi_save_62 (by decide) rfl ?_
  refine T_iinc (x := nI 19) (L' := [(5, .int (nI 11)), (3, .long q5), (6, .int (nI 1)), (0, .ref 78), (1, .ref f), (2, .ref o)]) d_Fi_save_63 (by decide) rfl rfl ?_
  refine T_goto (tgt := 45) d_Fi_save_66 rfl ?_
  refine T_iload d_Fi_save_45 rfl ?_
  refine T_bipush (v := nI 8) d_Fi_save_47 (by decide) ?_
  refine T_icmp_lt d_Fi_save_49 (tgt := 69) rfl (fun c => absurd c (by decide)) (fun _ => ?_)
  refine T_aload_n (v := .ref o) d_Fi_save_52 rfl (Or.inr ⟨_, rfl⟩) ?_
  refine T_lload_n d_Fi_save_53 rfl ?_
  refine T_l2i d_Fi_save_54 ?_
  refine T_virtual (as := [.int q5.toInt32]) (rest := []) (b := o) d_Fi_save_55 rfl (jw_By_putByte.jo (by decide)) lm_Fi_47 ji_By_putByte js_By_putByte (bo _ _) rfl rfl rfl (Nat.le_of_ble_eq_true rfl) (by decide) (by decide) (x_By_putByte G (bo _ _) (bd _ _) kd hne (show len + 5 < room by omega) hr2) (fun r M' hq => ?_)
  have eb : q5.toInt32.toInt8.toInt32 = Bv 5 := by
    rw [sb_of, hBv]
    show sb (q5.toInt % 256) = sb (X / 256 ^ 5 % 256)
    obtain ⟨R, hR⟩ := n2
    rw [hq5]; congr 1
    exact ls3 (d := 8) hR (by decide) (by decide)
  rw [hq.1, hq.2, X_by hne, eb, bq_up len 5 Bv D]
  clear hq r M' eb
  refine T_eq (pc' := 58) (L' := [(5, .int (nI 11)), (3, .long q5), (6, .int (nI 1)), (0, .ref 78), (1, .ref f), (2, .ref o)]) (st' := []) (M' := (N.set dt (br room (bq len 6 Bv D))).set o (byO dt (len + 6))) rfl rfl rfl rfl ?_
  refine T_lload_n d_Fi_save_58 rfl ?_
  refine T_bipush (v := nI 8) d_Fi_save_59 (by decide) ?_
  refine T_lshr d_Fi_save_61 ?_
  refine T_topl (fun q6 eq6 => ?_)
  have tq6 : q6.toInt = q5.toInt / 256 := by rw [eq6]; exact nn_shr s8_ rq5 (by decide)
  clear eq6
  have rq6 : 0 ≤ q6.toInt ∧ q6.toInt < 2 ^ 3 := rl2 8 3 tq6 rq5
  have hq6 : q6.toInt = S2 / 281474976710656 := by rw [tq6, hq5, Int.ediv_ediv_of_nonneg (by decide)]; rfl
  refine T_lstore_n (L' := [(3, .long q6), (5, .int (nI 11)), (6, .int (nI 1)), (0, .ref 78), (1, .ref f), (2, .ref o)]) d_Fi_save_62 (by decide) rfl ?_
  refine T_iinc (x := nI 11) (L' := [(5, .int (nI 3)), (3, .long q6), (6, .int (nI 1)), (0, .ref 78), (1, .ref f), (2, .ref o)]) d_Fi_save_63 (by decide) rfl rfl ?_
  refine T_goto (tgt := 45) d_Fi_save_66 rfl ?_
  refine T_iload d_Fi_save_45 rfl ?_
  refine T_bipush (v := nI 8) d_Fi_save_47 (by decide) ?_
  refine T_icmp_lt d_Fi_save_49 (tgt := 69) rfl (fun _ => ?_) (fun c => absurd (by decide) c)
  refine T_iinc (x := nI 1) (L' := [(6, .int (nI 2)), (5, .int (nI 3)), (3, .long q6), (0, .ref 78), (1, .ref f), (2, .ref o)]) d_Fi_save_69 (by decide) rfl rfl ?_
  refine T_goto (tgt := 13) d_Fi_save_72 rfl ?_
  refine T_iload d_Fi_save_13 rfl ?_
  refine T_bipush (v := nI 10) d_Fi_save_15 (by decide) ?_
  refine T_icmp_ge d_Fi_save_17 (tgt := 75) rfl (fun c => absurd c (by decide)) (fun _ => ?_)
  refine T_lload_n d_Fi_save_20 rfl ?_
  refine T_aload_n (v := .ref 78) d_Fi_save_21 rfl (Or.inr ⟨_, rfl⟩) ?_
  refine T_getfield d_Fi_save_22 fg_Fi_9 (b8 _ _) rfl ?_
  refine T_iload d_Fi_save_25 rfl ?_
  refine T_laload d_Fi_save_27 (b9 _ _) (vp_in_nI (by decide) (by decide)) ?_
  refine T_eq (st' := [.long (W1 2), .long q6]) rfl rfl rfl rfl ?_
  refine T_iload d_Fi_save_28 rfl ?_
  refine T_lshl d_Fi_save_30 ?_
  refine T_lor d_Fi_save_31 ?_
  have st2 := orstep q6 (W1 2) 3 (by decide) rq6 ⟨g2.1, Int.lt_of_lt_of_le g2.2 (by decide)⟩
  refine T_topl (fun u2 eu2 => ?_)
  rw [← eu2] at st2
  clear eu2
  have rg2 : 0 ≤ u2.toInt ∧ u2.toInt < 2 ^ 29 := rl3 3 26 st2 rq6 g2
  have hv2 : u2.toInt = S3 / 281474976710656 := by rw [st2, hq6, s3]; exact (ls2 (by decide) (by decide)).symm
  refine T_lstore_n (L' := [(3, .long u2), (6, .int (nI 2)), (5, .int (nI 3)), (0, .ref 78), (1, .ref f), (2, .ref o)]) d_Fi_save_32 (by decide) rfl ?_
  refine T_iload d_Fi_save_33 rfl ?_
  refine T_bipush (v := nI 26) d_Fi_save_35 (by decide) ?_
  refine T_iload d_Fi_save_37 rfl ?_
  refine T_iconst (v := nI 1) d_Fi_save_39 (by decide) ?_
  refine T_iand d_Fi_save_40 ?_
  refine T_isub d_Fi_save_41 ?_
  refine T_iadd d_Fi_save_42 ?_
  refine T_eq (st' := [.int (nI 29)]) rfl rfl rfl rfl ?_
  refine T_istore (L' := [(5, .int (nI 29)), (3, .long u2), (6, .int (nI 2)), (0, .ref 78), (1, .ref f), (2, .ref o)]) d_Fi_save_43 (by decide) rfl ?_
  refine T_iload d_Fi_save_45 rfl ?_
  refine T_bipush (v := nI 8) d_Fi_save_47 (by decide) ?_
  refine T_icmp_lt d_Fi_save_49 (tgt := 69) rfl (fun c => absurd c (by decide)) (fun _ => ?_)
  refine T_aload_n (v := .ref o) d_Fi_save_52 rfl (Or.inr ⟨_, rfl⟩) ?_
  refine T_lload_n d_Fi_save_53 rfl ?_
  refine T_l2i d_Fi_save_54 ?_
  refine T_virtual (as := [.int u2.toInt32]) (rest := []) (b := o) d_Fi_save_55 rfl (jw_By_putByte.jo (by decide)) lm_Fi_47 ji_By_putByte js_By_putByte (bo _ _) rfl rfl rfl (Nat.le_of_ble_eq_true rfl) (by decide) (by decide) (x_By_putByte G (bo _ _) (bd _ _) kd hne (show len + 6 < room by omega) hr2) (fun r M' hq => ?_)
  have eb : u2.toInt32.toInt8.toInt32 = Bv 6 := by
    rw [sb_of, hBv]
    show sb (u2.toInt % 256) = sb (X / 256 ^ 6 % 256)
    obtain ⟨R, hR⟩ := n3
    rw [hv2]; congr 1
    exact ls3 (d := 2097152) hR (by decide) (by decide)
  rw [hq.1, hq.2, X_by hne, eb, bq_up len 6 Bv D]
  clear hq r M' eb
  refine T_eq (pc' := 58) (L' := [(5, .int (nI 29)), (3, .long u2), (6, .int (nI 2)), (0, .ref 78), (1, .ref f), (2, .ref o)]) (st' := []) (M' := (N.set dt (br room (bq len 7 Bv D))).set o (byO dt (len + 7))) rfl rfl rfl rfl ?_
  refine T_lload_n d_Fi_save_58 rfl ?_
  refine T_bipush (v := nI 8) d_Fi_save_59 (by decide) ?_
  refine T_lshr d_Fi_save_61 ?_
  refine T_topl (fun q7 eq7 => ?_)
  have tq7 : q7.toInt = u2.toInt / 256 := by rw [eq7]; exact nn_shr s8_ rg2 (by decide)
  clear eq7
  have rq7 : 0 ≤ q7.toInt ∧ q7.toInt < 2 ^ 21 := rl2 8 21 tq7 rg2
  have hq7 : q7.toInt = S3 / 72057594037927936 := by rw [tq7, hv2, Int.ediv_ediv_of_nonneg (by decide)]; rfl
  refine T_lstore_n (L' := [(3, .long q7), (5, .int (nI 29)), (6, .int (nI 2)), (0, .ref 78), (1, .ref f), (2, .ref o)]) d_Fi_save_62 (by decide) rfl ?_
  refine T_iinc (x := nI 29) (L' := [(5, .int (nI 21)), (3, .long q7), (6, .int (nI 2)), (0, .ref 78), (1, .ref f), (2, .ref o)]) d_Fi_save_63 (by decide) rfl rfl ?_
  refine T_goto (tgt := 45) d_Fi_save_66 rfl ?_
  refine T_iload d_Fi_save_45 rfl ?_
  refine T_bipush (v := nI 8) d_Fi_save_47 (by decide) ?_
  refine T_icmp_lt d_Fi_save_49 (tgt := 69) rfl (fun c => absurd c (by decide)) (fun _ => ?_)
  refine T_aload_n (v := .ref o) d_Fi_save_52 rfl (Or.inr ⟨_, rfl⟩) ?_
  refine T_lload_n d_Fi_save_53 rfl ?_
  refine T_l2i d_Fi_save_54 ?_
  refine T_virtual (as := [.int q7.toInt32]) (rest := []) (b := o) d_Fi_save_55 rfl (jw_By_putByte.jo (by decide)) lm_Fi_47 ji_By_putByte js_By_putByte (bo _ _) rfl rfl rfl (Nat.le_of_ble_eq_true rfl) (by decide) (by decide) (x_By_putByte G (bo _ _) (bd _ _) kd hne (show len + 7 < room by omega) hr2) (fun r M' hq => ?_)
  have eb : q7.toInt32.toInt8.toInt32 = Bv 7 := by
    rw [sb_of, hBv]
    show sb (q7.toInt % 256) = sb (X / 256 ^ 7 % 256)
    obtain ⟨R, hR⟩ := n3
    rw [hq7]; congr 1
    exact ls3 (d := 8192) hR (by decide) (by decide)
  rw [hq.1, hq.2, X_by hne, eb, bq_up len 7 Bv D]
  clear hq r M' eb
  refine T_eq (pc' := 58) (L' := [(5, .int (nI 21)), (3, .long q7), (6, .int (nI 2)), (0, .ref 78), (1, .ref f), (2, .ref o)]) (st' := []) (M' := (N.set dt (br room (bq len 8 Bv D))).set o (byO dt (len + 8))) rfl rfl rfl rfl ?_
  refine T_lload_n d_Fi_save_58 rfl ?_
  refine T_bipush (v := nI 8) d_Fi_save_59 (by decide) ?_
  refine T_lshr d_Fi_save_61 ?_
  refine T_topl (fun q8 eq8 => ?_)
  have tq8 : q8.toInt = q7.toInt / 256 := by rw [eq8]; exact nn_shr s8_ rq7 (by decide)
  clear eq8
  have rq8 : 0 ≤ q8.toInt ∧ q8.toInt < 2 ^ 13 := rl2 8 13 tq8 rq7
  have hq8 : q8.toInt = S3 / 18446744073709551616 := by rw [tq8, hq7, Int.ediv_ediv_of_nonneg (by decide)]; rfl
  refine T_lstore_n (L' := [(3, .long q8), (5, .int (nI 21)), (6, .int (nI 2)), (0, .ref 78), (1, .ref f), (2, .ref o)]) d_Fi_save_62 (by decide) rfl ?_
  refine T_iinc (x := nI 21) (L' := [(5, .int (nI 13)), (3, .long q8), (6, .int (nI 2)), (0, .ref 78), (1, .ref f), (2, .ref o)]) d_Fi_save_63 (by decide) rfl rfl ?_
  refine T_goto (tgt := 45) d_Fi_save_66 rfl ?_
  refine T_iload d_Fi_save_45 rfl ?_
  refine T_bipush (v := nI 8) d_Fi_save_47 (by decide) ?_
  refine T_icmp_lt d_Fi_save_49 (tgt := 69) rfl (fun c => absurd c (by decide)) (fun _ => ?_)
  refine T_aload_n (v := .ref o) d_Fi_save_52 rfl (Or.inr ⟨_, rfl⟩) ?_
  refine T_lload_n d_Fi_save_53 rfl ?_
  refine T_l2i d_Fi_save_54 ?_
  refine T_virtual (as := [.int q8.toInt32]) (rest := []) (b := o) d_Fi_save_55 rfl (jw_By_putByte.jo (by decide)) lm_Fi_47 ji_By_putByte js_By_putByte (bo _ _) rfl rfl rfl (Nat.le_of_ble_eq_true rfl) (by decide) (by decide) (x_By_putByte G (bo _ _) (bd _ _) kd hne (show len + 8 < room by omega) hr2) (fun r M' hq => ?_)
  have eb : q8.toInt32.toInt8.toInt32 = Bv 8 := by
    rw [sb_of, hBv]
    show sb (q8.toInt % 256) = sb (X / 256 ^ 8 % 256)
    obtain ⟨R, hR⟩ := n3
    rw [hq8]; congr 1
    exact ls3 (d := 32) hR (by decide) (by decide)
  rw [hq.1, hq.2, X_by hne, eb, bq_up len 8 Bv D]
  clear hq r M' eb
  refine T_eq (pc' := 58) (L' := [(5, .int (nI 13)), (3, .long q8), (6, .int (nI 2)), (0, .ref 78), (1, .ref f), (2, .ref o)]) (st' := []) (M' := (N.set dt (br room (bq len 9 Bv D))).set o (byO dt (len + 9))) rfl rfl rfl rfl ?_
  refine T_lload_n d_Fi_save_58 rfl ?_
  refine T_bipush (v := nI 8) d_Fi_save_59 (by decide) ?_
  refine T_lshr d_Fi_save_61 ?_
  refine T_topl (fun q9 eq9 => ?_)
  have tq9 : q9.toInt = q8.toInt / 256 := by rw [eq9]; exact nn_shr s8_ rq8 (by decide)
  clear eq9
  have rq9 : 0 ≤ q9.toInt ∧ q9.toInt < 2 ^ 5 := rl2 8 5 tq9 rq8
  have hq9 : q9.toInt = S3 / 4722366482869645213696 := by rw [tq9, hq8, Int.ediv_ediv_of_nonneg (by decide)]; rfl
  refine T_lstore_n (L' := [(3, .long q9), (5, .int (nI 13)), (6, .int (nI 2)), (0, .ref 78), (1, .ref f), (2, .ref o)]) d_Fi_save_62 (by decide) rfl ?_
  refine T_iinc (x := nI 13) (L' := [(5, .int (nI 5)), (3, .long q9), (6, .int (nI 2)), (0, .ref 78), (1, .ref f), (2, .ref o)]) d_Fi_save_63 (by decide) rfl rfl ?_
  refine T_goto (tgt := 45) d_Fi_save_66 rfl ?_
  refine T_iload d_Fi_save_45 rfl ?_
  refine T_bipush (v := nI 8) d_Fi_save_47 (by decide) ?_
  refine T_icmp_lt d_Fi_save_49 (tgt := 69) rfl (fun _ => ?_) (fun c => absurd (by decide) c)
  refine T_iinc (x := nI 2) (L' := [(6, .int (nI 3)), (5, .int (nI 5)), (3, .long q9), (0, .ref 78), (1, .ref f), (2, .ref o)]) d_Fi_save_69 (by decide) rfl rfl ?_
  refine T_goto (tgt := 13) d_Fi_save_72 rfl ?_
  refine T_iload d_Fi_save_13 rfl ?_
  refine T_bipush (v := nI 10) d_Fi_save_15 (by decide) ?_
  refine T_icmp_ge d_Fi_save_17 (tgt := 75) rfl (fun c => absurd c (by decide)) (fun _ => ?_)
  refine T_lload_n d_Fi_save_20 rfl ?_
  refine T_aload_n (v := .ref 78) d_Fi_save_21 rfl (Or.inr ⟨_, rfl⟩) ?_
  refine T_getfield d_Fi_save_22 fg_Fi_9 (b8 _ _) rfl ?_
  refine T_iload d_Fi_save_25 rfl ?_
  refine T_laload d_Fi_save_27 (b9 _ _) (vp_in_nI (by decide) (by decide)) ?_
  refine T_eq (st' := [.long (W1 3), .long q9]) rfl rfl rfl rfl ?_
  refine T_iload d_Fi_save_28 rfl ?_
  refine T_lshl d_Fi_save_30 ?_
  refine T_lor d_Fi_save_31 ?_
  have st3 := orstep q9 (W1 3) 5 (by decide) rq9 ⟨g3.1, Int.lt_of_lt_of_le g3.2 (by decide)⟩
  refine T_topl (fun u3 eu3 => ?_)
  rw [← eu3] at st3
  clear eu3
  have rg3 : 0 ≤ u3.toInt ∧ u3.toInt < 2 ^ 30 := rl3 5 25 st3 rq9 g3
  have hv3 : u3.toInt = S4 / 4722366482869645213696 := by rw [st3, hq9, s4]; exact (ls2 (by decide) (by decide)).symm
  refine T_lstore_n (L' := [(3, .long u3), (6, .int (nI 3)), (5, .int (nI 5)), (0, .ref 78), (1, .ref f), (2, .ref o)]) d_Fi_save_32 (by decide) rfl ?_
  refine T_iload d_Fi_save_33 rfl ?_
  refine T_bipush (v := nI 26) d_Fi_save_35 (by decide) ?_
  refine T_iload d_Fi_save_37 rfl ?_
  refine T_iconst (v := nI 1) d_Fi_save_39 (by decide) ?_
  refine T_iand d_Fi_save_40 ?_
  refine T_isub d_Fi_save_41 ?_
  refine T_iadd d_Fi_save_42 ?_
  refine T_eq (st' := [.int (nI 30)]) rfl rfl rfl rfl ?_
  refine T_istore (L' := [(5, .int (nI 30)), (3, .long u3), (6, .int (nI 3)), (0, .ref 78), (1, .ref f), (2, .ref o)]) d_Fi_save_43 (by decide) rfl ?_
  refine T_iload d_Fi_save_45 rfl ?_
  refine T_bipush (v := nI 8) d_Fi_save_47 (by decide) ?_
  refine T_icmp_lt d_Fi_save_49 (tgt := 69) rfl (fun c => absurd c (by decide)) (fun _ => ?_)
  refine T_aload_n (v := .ref o) d_Fi_save_52 rfl (Or.inr ⟨_, rfl⟩) ?_
  refine T_lload_n d_Fi_save_53 rfl ?_
  refine T_l2i d_Fi_save_54 ?_
  refine T_virtual (as := [.int u3.toInt32]) (rest := []) (b := o) d_Fi_save_55 rfl (jw_By_putByte.jo (by decide)) lm_Fi_47 ji_By_putByte js_By_putByte (bo _ _) rfl rfl rfl (Nat.le_of_ble_eq_true rfl) (by decide) (by decide) (x_By_putByte G (bo _ _) (bd _ _) kd hne (show len + 9 < room by omega) hr2) (fun r M' hq => ?_)
  have eb : u3.toInt32.toInt8.toInt32 = Bv 9 := by
    rw [sb_of, hBv]
    show sb (u3.toInt % 256) = sb (X / 256 ^ 9 % 256)
    obtain ⟨R, hR⟩ := n4
    rw [hv3]; congr 1
    exact ls3 (d := 4194304) hR (by decide) (by decide)
  rw [hq.1, hq.2, X_by hne, eb, bq_up len 9 Bv D]
  clear hq r M' eb
  refine T_eq (pc' := 58) (L' := [(5, .int (nI 30)), (3, .long u3), (6, .int (nI 3)), (0, .ref 78), (1, .ref f), (2, .ref o)]) (st' := []) (M' := (N.set dt (br room (bq len 10 Bv D))).set o (byO dt (len + 10))) rfl rfl rfl rfl ?_
  refine T_lload_n d_Fi_save_58 rfl ?_
  refine T_bipush (v := nI 8) d_Fi_save_59 (by decide) ?_
  refine T_lshr d_Fi_save_61 ?_
  refine T_topl (fun q10 eq10 => ?_)
  have tq10 : q10.toInt = u3.toInt / 256 := by rw [eq10]; exact nn_shr s8_ rg3 (by decide)
  clear eq10
  have rq10 : 0 ≤ q10.toInt ∧ q10.toInt < 2 ^ 22 := rl2 8 22 tq10 rg3
  have hq10 : q10.toInt = S4 / 1208925819614629174706176 := by rw [tq10, hv3, Int.ediv_ediv_of_nonneg (by decide)]; rfl
  refine T_lstore_n (L' := [(3, .long q10), (5, .int (nI 30)), (6, .int (nI 3)), (0, .ref 78), (1, .ref f), (2, .ref o)]) d_Fi_save_62 (by decide) rfl ?_
  refine T_iinc (x := nI 30) (L' := [(5, .int (nI 22)), (3, .long q10), (6, .int (nI 3)), (0, .ref 78), (1, .ref f), (2, .ref o)]) d_Fi_save_63 (by decide) rfl rfl ?_
  refine T_goto (tgt := 45) d_Fi_save_66 rfl ?_
  refine T_iload d_Fi_save_45 rfl ?_
  refine T_bipush (v := nI 8) d_Fi_save_47 (by decide) ?_
  refine T_icmp_lt d_Fi_save_49 (tgt := 69) rfl (fun c => absurd c (by decide)) (fun _ => ?_)
  refine T_aload_n (v := .ref o) d_Fi_save_52 rfl (Or.inr ⟨_, rfl⟩) ?_
  refine T_lload_n d_Fi_save_53 rfl ?_
  refine T_l2i d_Fi_save_54 ?_
  refine T_virtual (as := [.int q10.toInt32]) (rest := []) (b := o) d_Fi_save_55 rfl (jw_By_putByte.jo (by decide)) lm_Fi_47 ji_By_putByte js_By_putByte (bo _ _) rfl rfl rfl (Nat.le_of_ble_eq_true rfl) (by decide) (by decide) (x_By_putByte G (bo _ _) (bd _ _) kd hne (show len + 10 < room by omega) hr2) (fun r M' hq => ?_)
  have eb : q10.toInt32.toInt8.toInt32 = Bv 10 := by
    rw [sb_of, hBv]
    show sb (q10.toInt % 256) = sb (X / 256 ^ 10 % 256)
    obtain ⟨R, hR⟩ := n4
    rw [hq10]; congr 1
    exact ls3 (d := 16384) hR (by decide) (by decide)
  rw [hq.1, hq.2, X_by hne, eb, bq_up len 10 Bv D]
  clear hq r M' eb
  refine T_eq (pc' := 58) (L' := [(5, .int (nI 22)), (3, .long q10), (6, .int (nI 3)), (0, .ref 78), (1, .ref f), (2, .ref o)]) (st' := []) (M' := (N.set dt (br room (bq len 11 Bv D))).set o (byO dt (len + 11))) rfl rfl rfl rfl ?_
  refine T_lload_n d_Fi_save_58 rfl ?_
  refine T_bipush (v := nI 8) d_Fi_save_59 (by decide) ?_
  refine T_lshr d_Fi_save_61 ?_
  refine T_topl (fun q11 eq11 => ?_)
  have tq11 : q11.toInt = q10.toInt / 256 := by rw [eq11]; exact nn_shr s8_ rq10 (by decide)
  clear eq11
  have rq11 : 0 ≤ q11.toInt ∧ q11.toInt < 2 ^ 14 := rl2 8 14 tq11 rq10
  have hq11 : q11.toInt = S4 / 309485009821345068724781056 := by rw [tq11, hq10, Int.ediv_ediv_of_nonneg (by decide)]; rfl
  refine T_lstore_n (L' := [(3, .long q11), (5, .int (nI 22)), (6, .int (nI 3)), (0, .ref 78), (1, .ref f), (2, .ref o)]) d_Fi_save_62 (by decide) rfl ?_
  refine T_iinc (x := nI 22) (L' := [(5, .int (nI 14)), (3, .long q11), (6, .int (nI 3)), (0, .ref 78), (1, .ref f), (2, .ref o)]) d_Fi_save_63 (by decide) rfl rfl ?_
  refine T_goto (tgt := 45) d_Fi_save_66 rfl ?_
  refine T_iload d_Fi_save_45 rfl ?_
  refine T_bipush (v := nI 8) d_Fi_save_47 (by decide) ?_
  refine T_icmp_lt d_Fi_save_49 (tgt := 69) rfl (fun c => absurd c (by decide)) (fun _ => ?_)
  refine T_aload_n (v := .ref o) d_Fi_save_52 rfl (Or.inr ⟨_, rfl⟩) ?_
  refine T_lload_n d_Fi_save_53 rfl ?_
  refine T_l2i d_Fi_save_54 ?_
  refine T_virtual (as := [.int q11.toInt32]) (rest := []) (b := o) d_Fi_save_55 rfl (jw_By_putByte.jo (by decide)) lm_Fi_47 ji_By_putByte js_By_putByte (bo _ _) rfl rfl rfl (Nat.le_of_ble_eq_true rfl) (by decide) (by decide) (x_By_putByte G (bo _ _) (bd _ _) kd hne (show len + 11 < room by omega) hr2) (fun r M' hq => ?_)
  have eb : q11.toInt32.toInt8.toInt32 = Bv 11 := by
    rw [sb_of, hBv]
    show sb (q11.toInt % 256) = sb (X / 256 ^ 11 % 256)
    obtain ⟨R, hR⟩ := n4
    rw [hq11]; congr 1
    exact ls3 (d := 64) hR (by decide) (by decide)
  rw [hq.1, hq.2, X_by hne, eb, bq_up len 11 Bv D]
  clear hq r M' eb
  refine T_eq (pc' := 58) (L' := [(5, .int (nI 14)), (3, .long q11), (6, .int (nI 3)), (0, .ref 78), (1, .ref f), (2, .ref o)]) (st' := []) (M' := (N.set dt (br room (bq len 12 Bv D))).set o (byO dt (len + 12))) rfl rfl rfl rfl ?_
  refine T_lload_n d_Fi_save_58 rfl ?_
  refine T_bipush (v := nI 8) d_Fi_save_59 (by decide) ?_
  refine T_lshr d_Fi_save_61 ?_
  refine T_topl (fun q12 eq12 => ?_)
  have tq12 : q12.toInt = q11.toInt / 256 := by rw [eq12]; exact nn_shr s8_ rq11 (by decide)
  clear eq12
  have rq12 : 0 ≤ q12.toInt ∧ q12.toInt < 2 ^ 6 := rl2 8 6 tq12 rq11
  have hq12 : q12.toInt = S4 / 79228162514264337593543950336 := by rw [tq12, hq11, Int.ediv_ediv_of_nonneg (by decide)]; rfl
  refine T_lstore_n (L' := [(3, .long q12), (5, .int (nI 14)), (6, .int (nI 3)), (0, .ref 78), (1, .ref f), (2, .ref o)]) d_Fi_save_62 (by decide) rfl ?_
  refine T_iinc (x := nI 14) (L' := [(5, .int (nI 6)), (3, .long q12), (6, .int (nI 3)), (0, .ref 78), (1, .ref f), (2, .ref o)]) d_Fi_save_63 (by decide) rfl rfl ?_
  refine T_goto (tgt := 45) d_Fi_save_66 rfl ?_
  refine T_iload d_Fi_save_45 rfl ?_
  refine T_bipush (v := nI 8) d_Fi_save_47 (by decide) ?_
  refine T_icmp_lt d_Fi_save_49 (tgt := 69) rfl (fun _ => ?_) (fun c => absurd (by decide) c)
  refine T_iinc (x := nI 3) (L' := [(6, .int (nI 4)), (5, .int (nI 6)), (3, .long q12), (0, .ref 78), (1, .ref f), (2, .ref o)]) d_Fi_save_69 (by decide) rfl rfl ?_
  refine T_goto (tgt := 13) d_Fi_save_72 rfl ?_
  refine T_iload d_Fi_save_13 rfl ?_
  refine T_bipush (v := nI 10) d_Fi_save_15 (by decide) ?_
  refine T_icmp_ge d_Fi_save_17 (tgt := 75) rfl (fun c => absurd c (by decide)) (fun _ => ?_)
  refine T_lload_n d_Fi_save_20 rfl ?_
  refine T_aload_n (v := .ref 78) d_Fi_save_21 rfl (Or.inr ⟨_, rfl⟩) ?_
  refine T_getfield d_Fi_save_22 fg_Fi_9 (b8 _ _) rfl ?_
  refine T_iload d_Fi_save_25 rfl ?_
  refine T_laload d_Fi_save_27 (b9 _ _) (vp_in_nI (by decide) (by decide)) ?_
  refine T_eq (st' := [.long (W1 4), .long q12]) rfl rfl rfl rfl ?_
  refine T_iload d_Fi_save_28 rfl ?_
  refine T_lshl d_Fi_save_30 ?_
  refine T_lor d_Fi_save_31 ?_
  have st4 := orstep q12 (W1 4) 6 (by decide) rq12 ⟨g4.1, Int.lt_of_lt_of_le g4.2 (by decide)⟩
  refine T_topl (fun u4 eu4 => ?_)
  rw [← eu4] at st4
  clear eu4
  have rg4 : 0 ≤ u4.toInt ∧ u4.toInt < 2 ^ 32 := rl3 6 26 st4 rq12 g4
  have hv4 : u4.toInt = S5 / 79228162514264337593543950336 := by rw [st4, hq12, s5]; exact (ls2 (by decide) (by decide)).symm
  refine T_lstore_n (L' := [(3, .long u4), (6, .int (nI 4)), (5, .int (nI 6)), (0, .ref 78), (1, .ref f), (2, .ref o)]) d_Fi_save_32 (by decide) rfl ?_
  refine T_iload d_Fi_save_33 rfl ?_
  refine T_bipush (v := nI 26) d_Fi_save_35 (by decide) ?_
  refine T_iload d_Fi_save_37 rfl ?_
  refine T_iconst (v := nI 1) d_Fi_save_39 (by decide) ?_
  refine T_iand d_Fi_save_40 ?_
  refine T_isub d_Fi_save_41 ?_
  refine T_iadd d_Fi_save_42 ?_
  refine T_eq (st' := [.int (nI 32)]) rfl rfl rfl rfl ?_
  refine T_istore (L' := [(5, .int (nI 32)), (3, .long u4), (6, .int (nI 4)), (0, .ref 78), (1, .ref f), (2, .ref o)]) d_Fi_save_43 (by decide) rfl ?_
  refine T_iload d_Fi_save_45 rfl ?_
  refine T_bipush (v := nI 8) d_Fi_save_47 (by decide) ?_
  refine T_icmp_lt d_Fi_save_49 (tgt := 69) rfl (fun c => absurd c (by decide)) (fun _ => ?_)
  refine T_aload_n (v := .ref o) d_Fi_save_52 rfl (Or.inr ⟨_, rfl⟩) ?_
  refine T_lload_n d_Fi_save_53 rfl ?_
  refine T_l2i d_Fi_save_54 ?_
  refine T_virtual (as := [.int u4.toInt32]) (rest := []) (b := o) d_Fi_save_55 rfl (jw_By_putByte.jo (by decide)) lm_Fi_47 ji_By_putByte js_By_putByte (bo _ _) rfl rfl rfl (Nat.le_of_ble_eq_true rfl) (by decide) (by decide) (x_By_putByte G (bo _ _) (bd _ _) kd hne (show len + 12 < room by omega) hr2) (fun r M' hq => ?_)
  have eb : u4.toInt32.toInt8.toInt32 = Bv 12 := by
    rw [sb_of, hBv]
    show sb (u4.toInt % 256) = sb (X / 256 ^ 12 % 256)
    obtain ⟨R, hR⟩ := n5
    rw [hv4]; congr 1
    exact ls3 (d := 16777216) hR (by decide) (by decide)
  rw [hq.1, hq.2, X_by hne, eb, bq_up len 12 Bv D]
  clear hq r M' eb
  refine T_eq (pc' := 58) (L' := [(5, .int (nI 32)), (3, .long u4), (6, .int (nI 4)), (0, .ref 78), (1, .ref f), (2, .ref o)]) (st' := []) (M' := (N.set dt (br room (bq len 13 Bv D))).set o (byO dt (len + 13))) rfl rfl rfl rfl ?_
  refine T_lload_n d_Fi_save_58 rfl ?_
  refine T_bipush (v := nI 8) d_Fi_save_59 (by decide) ?_
  refine T_lshr d_Fi_save_61 ?_
  refine T_topl (fun q13 eq13 => ?_)
  have tq13 : q13.toInt = u4.toInt / 256 := by rw [eq13]; exact nn_shr s8_ rg4 (by decide)
  clear eq13
  have rq13 : 0 ≤ q13.toInt ∧ q13.toInt < 2 ^ 24 := rl2 8 24 tq13 rg4
  have hq13 : q13.toInt = S5 / 20282409603651670423947251286016 := by rw [tq13, hv4, Int.ediv_ediv_of_nonneg (by decide)]; rfl
  refine T_lstore_n (L' := [(3, .long q13), (5, .int (nI 32)), (6, .int (nI 4)), (0, .ref 78), (1, .ref f), (2, .ref o)]) d_Fi_save_62 (by decide) rfl ?_
  refine T_iinc (x := nI 32) (L' := [(5, .int (nI 24)), (3, .long q13), (6, .int (nI 4)), (0, .ref 78), (1, .ref f), (2, .ref o)]) d_Fi_save_63 (by decide) rfl rfl ?_
  refine T_goto (tgt := 45) d_Fi_save_66 rfl ?_
  refine T_iload d_Fi_save_45 rfl ?_
  refine T_bipush (v := nI 8) d_Fi_save_47 (by decide) ?_
  refine T_icmp_lt d_Fi_save_49 (tgt := 69) rfl (fun c => absurd c (by decide)) (fun _ => ?_)
  refine T_aload_n (v := .ref o) d_Fi_save_52 rfl (Or.inr ⟨_, rfl⟩) ?_
  refine T_lload_n d_Fi_save_53 rfl ?_
  refine T_l2i d_Fi_save_54 ?_
  refine T_virtual (as := [.int q13.toInt32]) (rest := []) (b := o) d_Fi_save_55 rfl (jw_By_putByte.jo (by decide)) lm_Fi_47 ji_By_putByte js_By_putByte (bo _ _) rfl rfl rfl (Nat.le_of_ble_eq_true rfl) (by decide) (by decide) (x_By_putByte G (bo _ _) (bd _ _) kd hne (show len + 13 < room by omega) hr2) (fun r M' hq => ?_)
  have eb : q13.toInt32.toInt8.toInt32 = Bv 13 := by
    rw [sb_of, hBv]
    show sb (q13.toInt % 256) = sb (X / 256 ^ 13 % 256)
    obtain ⟨R, hR⟩ := n5
    rw [hq13]; congr 1
    exact ls3 (d := 65536) hR (by decide) (by decide)
  rw [hq.1, hq.2, X_by hne, eb, bq_up len 13 Bv D]
  clear hq r M' eb
  refine T_eq (pc' := 58) (L' := [(5, .int (nI 24)), (3, .long q13), (6, .int (nI 4)), (0, .ref 78), (1, .ref f), (2, .ref o)]) (st' := []) (M' := (N.set dt (br room (bq len 14 Bv D))).set o (byO dt (len + 14))) rfl rfl rfl rfl ?_
  refine T_lload_n d_Fi_save_58 rfl ?_
  refine T_bipush (v := nI 8) d_Fi_save_59 (by decide) ?_
  refine T_lshr d_Fi_save_61 ?_
  refine T_topl (fun q14 eq14 => ?_)
  have tq14 : q14.toInt = q13.toInt / 256 := by rw [eq14]; exact nn_shr s8_ rq13 (by decide)
  clear eq14
  have rq14 : 0 ≤ q14.toInt ∧ q14.toInt < 2 ^ 16 := rl2 8 16 tq14 rq13
  have hq14 : q14.toInt = S5 / 5192296858534827628530496329220096 := by rw [tq14, hq13, Int.ediv_ediv_of_nonneg (by decide)]; rfl
  refine T_lstore_n (L' := [(3, .long q14), (5, .int (nI 24)), (6, .int (nI 4)), (0, .ref 78), (1, .ref f), (2, .ref o)]) d_Fi_save_62 (by decide) rfl ?_
  refine T_iinc (x := nI 24) (L' := [(5, .int (nI 16)), (3, .long q14), (6, .int (nI 4)), (0, .ref 78), (1, .ref f), (2, .ref o)]) d_Fi_save_63 (by decide) rfl rfl ?_
  refine T_goto (tgt := 45) d_Fi_save_66 rfl ?_
  refine T_iload d_Fi_save_45 rfl ?_
  refine T_bipush (v := nI 8) d_Fi_save_47 (by decide) ?_
  refine T_icmp_lt d_Fi_save_49 (tgt := 69) rfl (fun c => absurd c (by decide)) (fun _ => ?_)
  refine T_aload_n (v := .ref o) d_Fi_save_52 rfl (Or.inr ⟨_, rfl⟩) ?_
  refine T_lload_n d_Fi_save_53 rfl ?_
  refine T_l2i d_Fi_save_54 ?_
  refine T_virtual (as := [.int q14.toInt32]) (rest := []) (b := o) d_Fi_save_55 rfl (jw_By_putByte.jo (by decide)) lm_Fi_47 ji_By_putByte js_By_putByte (bo _ _) rfl rfl rfl (Nat.le_of_ble_eq_true rfl) (by decide) (by decide) (x_By_putByte G (bo _ _) (bd _ _) kd hne (show len + 14 < room by omega) hr2) (fun r M' hq => ?_)
  have eb : q14.toInt32.toInt8.toInt32 = Bv 14 := by
    rw [sb_of, hBv]
    show sb (q14.toInt % 256) = sb (X / 256 ^ 14 % 256)
    obtain ⟨R, hR⟩ := n5
    rw [hq14]; congr 1
    exact ls3 (d := 256) hR (by decide) (by decide)
  rw [hq.1, hq.2, X_by hne, eb, bq_up len 14 Bv D]
  clear hq r M' eb
  refine T_eq (pc' := 58) (L' := [(5, .int (nI 16)), (3, .long q14), (6, .int (nI 4)), (0, .ref 78), (1, .ref f), (2, .ref o)]) (st' := []) (M' := (N.set dt (br room (bq len 15 Bv D))).set o (byO dt (len + 15))) rfl rfl rfl rfl ?_
  refine T_lload_n d_Fi_save_58 rfl ?_
  refine T_bipush (v := nI 8) d_Fi_save_59 (by decide) ?_
  refine T_lshr d_Fi_save_61 ?_
  refine T_topl (fun q15 eq15 => ?_)
  have tq15 : q15.toInt = q14.toInt / 256 := by rw [eq15]; exact nn_shr s8_ rq14 (by decide)
  clear eq15
  have rq15 : 0 ≤ q15.toInt ∧ q15.toInt < 2 ^ 8 := rl2 8 8 tq15 rq14
  have hq15 : q15.toInt = S5 / 1329227995784915872903807060280344576 := by rw [tq15, hq14, Int.ediv_ediv_of_nonneg (by decide)]; rfl
  refine T_lstore_n (L' := [(3, .long q15), (5, .int (nI 16)), (6, .int (nI 4)), (0, .ref 78), (1, .ref f), (2, .ref o)]) d_Fi_save_62 (by decide) rfl ?_
  refine T_iinc (x := nI 16) (L' := [(5, .int (nI 8)), (3, .long q15), (6, .int (nI 4)), (0, .ref 78), (1, .ref f), (2, .ref o)]) d_Fi_save_63 (by decide) rfl rfl ?_
  refine T_goto (tgt := 45) d_Fi_save_66 rfl ?_
  refine T_iload d_Fi_save_45 rfl ?_
  refine T_bipush (v := nI 8) d_Fi_save_47 (by decide) ?_
  refine T_icmp_lt d_Fi_save_49 (tgt := 69) rfl (fun c => absurd c (by decide)) (fun _ => ?_)
  refine T_aload_n (v := .ref o) d_Fi_save_52 rfl (Or.inr ⟨_, rfl⟩) ?_
  refine T_lload_n d_Fi_save_53 rfl ?_
  refine T_l2i d_Fi_save_54 ?_
  refine T_virtual (as := [.int q15.toInt32]) (rest := []) (b := o) d_Fi_save_55 rfl (jw_By_putByte.jo (by decide)) lm_Fi_47 ji_By_putByte js_By_putByte (bo _ _) rfl rfl rfl (Nat.le_of_ble_eq_true rfl) (by decide) (by decide) (x_By_putByte G (bo _ _) (bd _ _) kd hne (show len + 15 < room by omega) hr2) (fun r M' hq => ?_)
  have eb : q15.toInt32.toInt8.toInt32 = Bv 15 := by
    rw [sb_of, hBv]
    show sb (q15.toInt % 256) = sb (X / 256 ^ 15 % 256)
    obtain ⟨R, hR⟩ := n5
    rw [hq15]; congr 1
    exact ls3 (d := 1) hR (by decide) (by decide)
  rw [hq.1, hq.2, X_by hne, eb, bq_up len 15 Bv D]
  clear hq r M' eb
  refine T_eq (pc' := 58) (L' := [(5, .int (nI 8)), (3, .long q15), (6, .int (nI 4)), (0, .ref 78), (1, .ref f), (2, .ref o)]) (st' := []) (M' := (N.set dt (br room (bq len 16 Bv D))).set o (byO dt (len + 16))) rfl rfl rfl rfl ?_
  refine T_lload_n d_Fi_save_58 rfl ?_
  refine T_bipush (v := nI 8) d_Fi_save_59 (by decide) ?_
  refine T_lshr d_Fi_save_61 ?_
  refine T_topl (fun q16 eq16 => ?_)
  have tq16 : q16.toInt = q15.toInt / 256 := by rw [eq16]; exact nn_shr s8_ rq15 (by decide)
  clear eq16
  have rq16 : 0 ≤ q16.toInt ∧ q16.toInt < 2 ^ 0 := rl2 8 0 tq16 rq15
  have hq16 : q16.toInt = S5 / 340282366920938463463374607431768211456 := by rw [tq16, hq15, Int.ediv_ediv_of_nonneg (by decide)]; rfl
  refine T_lstore_n (L' := [(3, .long q16), (5, .int (nI 8)), (6, .int (nI 4)), (0, .ref 78), (1, .ref f), (2, .ref o)]) d_Fi_save_62 (by decide) rfl ?_
  refine T_iinc (x := nI 8) (L' := [(5, .int (nI 0)), (3, .long q16), (6, .int (nI 4)), (0, .ref 78), (1, .ref f), (2, .ref o)]) d_Fi_save_63 (by decide) rfl rfl ?_
  refine T_goto (tgt := 45) d_Fi_save_66 rfl ?_
  refine T_iload d_Fi_save_45 rfl ?_
  refine T_bipush (v := nI 8) d_Fi_save_47 (by decide) ?_
  refine T_icmp_lt d_Fi_save_49 (tgt := 69) rfl (fun _ => ?_) (fun c => absurd (by decide) c)
  refine T_iinc (x := nI 4) (L' := [(6, .int (nI 5)), (5, .int (nI 0)), (3, .long q16), (0, .ref 78), (1, .ref f), (2, .ref o)]) d_Fi_save_69 (by decide) rfl rfl ?_
  refine T_goto (tgt := 13) d_Fi_save_72 rfl ?_
  refine T_iload d_Fi_save_13 rfl ?_
  refine T_bipush (v := nI 10) d_Fi_save_15 (by decide) ?_
  refine T_icmp_ge d_Fi_save_17 (tgt := 75) rfl (fun c => absurd c (by decide)) (fun _ => ?_)
  refine T_lload_n d_Fi_save_20 rfl ?_
  refine T_aload_n (v := .ref 78) d_Fi_save_21 rfl (Or.inr ⟨_, rfl⟩) ?_
  refine T_getfield d_Fi_save_22 fg_Fi_9 (b8 _ _) rfl ?_
  refine T_iload d_Fi_save_25 rfl ?_
  refine T_laload d_Fi_save_27 (b9 _ _) (vp_in_nI (by decide) (by decide)) ?_
  refine T_eq (st' := [.long (W1 5), .long q16]) rfl rfl rfl rfl ?_
  refine T_iload d_Fi_save_28 rfl ?_
  refine T_lshl d_Fi_save_30 ?_
  refine T_lor d_Fi_save_31 ?_
  have st5 := orstep q16 (W1 5) 0 (by decide) rq16 ⟨g5.1, Int.lt_of_lt_of_le g5.2 (by decide)⟩
  refine T_topl (fun u5 eu5 => ?_)
  rw [← eu5] at st5
  clear eu5
  have rg5 : 0 ≤ u5.toInt ∧ u5.toInt < 2 ^ 25 := rl3 0 25 st5 rq16 g5
  have hv5 : u5.toInt = S6 / 340282366920938463463374607431768211456 := by rw [st5, hq16, s6]; exact (ls2 (by decide) (by decide)).symm
  refine T_lstore_n (L' := [(3, .long u5), (6, .int (nI 5)), (5, .int (nI 0)), (0, .ref 78), (1, .ref f), (2, .ref o)]) d_Fi_save_32 (by decide) rfl ?_
  refine T_iload d_Fi_save_33 rfl ?_
  refine T_bipush (v := nI 26) d_Fi_save_35 (by decide) ?_
  refine T_iload d_Fi_save_37 rfl ?_
  refine T_iconst (v := nI 1) d_Fi_save_39 (by decide) ?_
  refine T_iand d_Fi_save_40 ?_
  refine T_isub d_Fi_save_41 ?_
  refine T_iadd d_Fi_save_42 ?_
  refine T_eq (st' := [.int (nI 25)]) rfl rfl rfl rfl ?_
  refine T_istore (L' := [(5, .int (nI 25)), (3, .long u5), (6, .int (nI 5)), (0, .ref 78), (1, .ref f), (2, .ref o)]) d_Fi_save_43 (by decide) rfl ?_
  refine T_iload d_Fi_save_45 rfl ?_
  refine T_bipush (v := nI 8) d_Fi_save_47 (by decide) ?_
  refine T_icmp_lt d_Fi_save_49 (tgt := 69) rfl (fun c => absurd c (by decide)) (fun _ => ?_)
  refine T_aload_n (v := .ref o) d_Fi_save_52 rfl (Or.inr ⟨_, rfl⟩) ?_
  refine T_lload_n d_Fi_save_53 rfl ?_
  refine T_l2i d_Fi_save_54 ?_
  refine T_virtual (as := [.int u5.toInt32]) (rest := []) (b := o) d_Fi_save_55 rfl (jw_By_putByte.jo (by decide)) lm_Fi_47 ji_By_putByte js_By_putByte (bo _ _) rfl rfl rfl (Nat.le_of_ble_eq_true rfl) (by decide) (by decide) (x_By_putByte G (bo _ _) (bd _ _) kd hne (show len + 16 < room by omega) hr2) (fun r M' hq => ?_)
  have eb : u5.toInt32.toInt8.toInt32 = Bv 16 := by
    rw [sb_of, hBv]
    show sb (u5.toInt % 256) = sb (X / 256 ^ 16 % 256)
    obtain ⟨R, hR⟩ := n6
    rw [hv5]; congr 1
    exact ls3 (d := 131072) hR (by decide) (by decide)
  rw [hq.1, hq.2, X_by hne, eb, bq_up len 16 Bv D]
  clear hq r M' eb
  refine T_eq (pc' := 58) (L' := [(5, .int (nI 25)), (3, .long u5), (6, .int (nI 5)), (0, .ref 78), (1, .ref f), (2, .ref o)]) (st' := []) (M' := (N.set dt (br room (bq len 17 Bv D))).set o (byO dt (len + 17))) rfl rfl rfl rfl ?_
  refine T_lload_n d_Fi_save_58 rfl ?_
  refine T_bipush (v := nI 8) d_Fi_save_59 (by decide) ?_
  refine T_lshr d_Fi_save_61 ?_
  refine T_topl (fun q17 eq17 => ?_)
  have tq17 : q17.toInt = u5.toInt / 256 := by rw [eq17]; exact nn_shr s8_ rg5 (by decide)
  clear eq17
  have rq17 : 0 ≤ q17.toInt ∧ q17.toInt < 2 ^ 17 := rl2 8 17 tq17 rg5
  have hq17 : q17.toInt = S6 / 87112285931760246646623899502532662132736 := by rw [tq17, hv5, Int.ediv_ediv_of_nonneg (by decide)]; rfl
  refine T_lstore_n (L' := [(3, .long q17), (5, .int (nI 25)), (6, .int (nI 5)), (0, .ref 78), (1, .ref f), (2, .ref o)]) d_Fi_save_62 (by decide) rfl ?_
  refine T_iinc (x := nI 25) (L' := [(5, .int (nI 17)), (3, .long q17), (6, .int (nI 5)), (0, .ref 78), (1, .ref f), (2, .ref o)]) d_Fi_save_63 (by decide) rfl rfl ?_
  refine T_goto (tgt := 45) d_Fi_save_66 rfl ?_
  refine T_iload d_Fi_save_45 rfl ?_
  refine T_bipush (v := nI 8) d_Fi_save_47 (by decide) ?_
  refine T_icmp_lt d_Fi_save_49 (tgt := 69) rfl (fun c => absurd c (by decide)) (fun _ => ?_)
  refine T_aload_n (v := .ref o) d_Fi_save_52 rfl (Or.inr ⟨_, rfl⟩) ?_
  refine T_lload_n d_Fi_save_53 rfl ?_
  refine T_l2i d_Fi_save_54 ?_
  refine T_virtual (as := [.int q17.toInt32]) (rest := []) (b := o) d_Fi_save_55 rfl (jw_By_putByte.jo (by decide)) lm_Fi_47 ji_By_putByte js_By_putByte (bo _ _) rfl rfl rfl (Nat.le_of_ble_eq_true rfl) (by decide) (by decide) (x_By_putByte G (bo _ _) (bd _ _) kd hne (show len + 17 < room by omega) hr2) (fun r M' hq => ?_)
  have eb : q17.toInt32.toInt8.toInt32 = Bv 17 := by
    rw [sb_of, hBv]
    show sb (q17.toInt % 256) = sb (X / 256 ^ 17 % 256)
    obtain ⟨R, hR⟩ := n6
    rw [hq17]; congr 1
    exact ls3 (d := 512) hR (by decide) (by decide)
  rw [hq.1, hq.2, X_by hne, eb, bq_up len 17 Bv D]
  clear hq r M' eb
  refine T_eq (pc' := 58) (L' := [(5, .int (nI 17)), (3, .long q17), (6, .int (nI 5)), (0, .ref 78), (1, .ref f), (2, .ref o)]) (st' := []) (M' := (N.set dt (br room (bq len 18 Bv D))).set o (byO dt (len + 18))) rfl rfl rfl rfl ?_
  refine T_lload_n d_Fi_save_58 rfl ?_
  refine T_bipush (v := nI 8) d_Fi_save_59 (by decide) ?_
  refine T_lshr d_Fi_save_61 ?_
  refine T_topl (fun q18 eq18 => ?_)
  have tq18 : q18.toInt = q17.toInt / 256 := by rw [eq18]; exact nn_shr s8_ rq17 (by decide)
  clear eq18
  have rq18 : 0 ≤ q18.toInt ∧ q18.toInt < 2 ^ 9 := rl2 8 9 tq18 rq17
  have hq18 : q18.toInt = S6 / 22300745198530623141535718272648361505980416 := by rw [tq18, hq17, Int.ediv_ediv_of_nonneg (by decide)]; rfl
  refine T_lstore_n (L' := [(3, .long q18), (5, .int (nI 17)), (6, .int (nI 5)), (0, .ref 78), (1, .ref f), (2, .ref o)]) d_Fi_save_62 (by decide) rfl ?_
  refine T_iinc (x := nI 17) (L' := [(5, .int (nI 9)), (3, .long q18), (6, .int (nI 5)), (0, .ref 78), (1, .ref f), (2, .ref o)]) d_Fi_save_63 (by decide) rfl rfl ?_
  refine T_goto (tgt := 45) d_Fi_save_66 rfl ?_
  refine T_iload d_Fi_save_45 rfl ?_
  refine T_bipush (v := nI 8) d_Fi_save_47 (by decide) ?_
  refine T_icmp_lt d_Fi_save_49 (tgt := 69) rfl (fun c => absurd c (by decide)) (fun _ => ?_)
  refine T_aload_n (v := .ref o) d_Fi_save_52 rfl (Or.inr ⟨_, rfl⟩) ?_
  refine T_lload_n d_Fi_save_53 rfl ?_
  refine T_l2i d_Fi_save_54 ?_
  refine T_virtual (as := [.int q18.toInt32]) (rest := []) (b := o) d_Fi_save_55 rfl (jw_By_putByte.jo (by decide)) lm_Fi_47 ji_By_putByte js_By_putByte (bo _ _) rfl rfl rfl (Nat.le_of_ble_eq_true rfl) (by decide) (by decide) (x_By_putByte G (bo _ _) (bd _ _) kd hne (show len + 18 < room by omega) hr2) (fun r M' hq => ?_)
  have eb : q18.toInt32.toInt8.toInt32 = Bv 18 := by
    rw [sb_of, hBv]
    show sb (q18.toInt % 256) = sb (X / 256 ^ 18 % 256)
    obtain ⟨R, hR⟩ := n6
    rw [hq18]; congr 1
    exact ls3 (d := 2) hR (by decide) (by decide)
  rw [hq.1, hq.2, X_by hne, eb, bq_up len 18 Bv D]
  clear hq r M' eb
  refine T_eq (pc' := 58) (L' := [(5, .int (nI 9)), (3, .long q18), (6, .int (nI 5)), (0, .ref 78), (1, .ref f), (2, .ref o)]) (st' := []) (M' := (N.set dt (br room (bq len 19 Bv D))).set o (byO dt (len + 19))) rfl rfl rfl rfl ?_
  refine T_lload_n d_Fi_save_58 rfl ?_
  refine T_bipush (v := nI 8) d_Fi_save_59 (by decide) ?_
  refine T_lshr d_Fi_save_61 ?_
  refine T_topl (fun q19 eq19 => ?_)
  have tq19 : q19.toInt = q18.toInt / 256 := by rw [eq19]; exact nn_shr s8_ rq18 (by decide)
  clear eq19
  have rq19 : 0 ≤ q19.toInt ∧ q19.toInt < 2 ^ 1 := rl2 8 1 tq19 rq18
  have hq19 : q19.toInt = S6 / 5708990770823839524233143877797980545530986496 := by rw [tq19, hq18, Int.ediv_ediv_of_nonneg (by decide)]; rfl
  refine T_lstore_n (L' := [(3, .long q19), (5, .int (nI 9)), (6, .int (nI 5)), (0, .ref 78), (1, .ref f), (2, .ref o)]) d_Fi_save_62 (by decide) rfl ?_
  refine T_iinc (x := nI 9) (L' := [(5, .int (nI 1)), (3, .long q19), (6, .int (nI 5)), (0, .ref 78), (1, .ref f), (2, .ref o)]) d_Fi_save_63 (by decide) rfl rfl ?_
  refine T_goto (tgt := 45) d_Fi_save_66 rfl ?_
  refine T_iload d_Fi_save_45 rfl ?_
  refine T_bipush (v := nI 8) d_Fi_save_47 (by decide) ?_
  refine T_icmp_lt d_Fi_save_49 (tgt := 69) rfl (fun _ => ?_) (fun c => absurd (by decide) c)
  refine T_iinc (x := nI 5) (L' := [(6, .int (nI 6)), (5, .int (nI 1)), (3, .long q19), (0, .ref 78), (1, .ref f), (2, .ref o)]) d_Fi_save_69 (by decide) rfl rfl ?_
  refine T_goto (tgt := 13) d_Fi_save_72 rfl ?_
  refine T_iload d_Fi_save_13 rfl ?_
  refine T_bipush (v := nI 10) d_Fi_save_15 (by decide) ?_
  refine T_icmp_ge d_Fi_save_17 (tgt := 75) rfl (fun c => absurd c (by decide)) (fun _ => ?_)
  refine T_lload_n d_Fi_save_20 rfl ?_
  refine T_aload_n (v := .ref 78) d_Fi_save_21 rfl (Or.inr ⟨_, rfl⟩) ?_
  refine T_getfield d_Fi_save_22 fg_Fi_9 (b8 _ _) rfl ?_
  refine T_iload d_Fi_save_25 rfl ?_
  refine T_laload d_Fi_save_27 (b9 _ _) (vp_in_nI (by decide) (by decide)) ?_
  refine T_eq (st' := [.long (W1 6), .long q19]) rfl rfl rfl rfl ?_
  refine T_iload d_Fi_save_28 rfl ?_
  refine T_lshl d_Fi_save_30 ?_
  refine T_lor d_Fi_save_31 ?_
  have st6 := orstep q19 (W1 6) 1 (by decide) rq19 ⟨g6.1, Int.lt_of_lt_of_le g6.2 (by decide)⟩
  refine T_topl (fun u6 eu6 => ?_)
  rw [← eu6] at st6
  clear eu6
  have rg6 : 0 ≤ u6.toInt ∧ u6.toInt < 2 ^ 27 := rl3 1 26 st6 rq19 g6
  have hv6 : u6.toInt = S7 / 5708990770823839524233143877797980545530986496 := by rw [st6, hq19, s7]; exact (ls2 (by decide) (by decide)).symm
  refine T_lstore_n (L' := [(3, .long u6), (6, .int (nI 6)), (5, .int (nI 1)), (0, .ref 78), (1, .ref f), (2, .ref o)]) d_Fi_save_32 (by decide) rfl ?_
  refine T_iload d_Fi_save_33 rfl ?_
  refine T_bipush (v := nI 26) d_Fi_save_35 (by decide) ?_
  refine T_iload d_Fi_save_37 rfl ?_
  refine T_iconst (v := nI 1) d_Fi_save_39 (by decide) ?_
  refine T_iand d_Fi_save_40 ?_
  refine T_isub d_Fi_save_41 ?_
  refine T_iadd d_Fi_save_42 ?_
  refine T_eq (st' := [.int (nI 27)]) rfl rfl rfl rfl ?_
  refine T_istore (L' := [(5, .int (nI 27)), (3, .long u6), (6, .int (nI 6)), (0, .ref 78), (1, .ref f), (2, .ref o)]) d_Fi_save_43 (by decide) rfl ?_
  refine T_iload d_Fi_save_45 rfl ?_
  refine T_bipush (v := nI 8) d_Fi_save_47 (by decide) ?_
  refine T_icmp_lt d_Fi_save_49 (tgt := 69) rfl (fun c => absurd c (by decide)) (fun _ => ?_)
  refine T_aload_n (v := .ref o) d_Fi_save_52 rfl (Or.inr ⟨_, rfl⟩) ?_
  refine T_lload_n d_Fi_save_53 rfl ?_
  refine T_l2i d_Fi_save_54 ?_
  refine T_virtual (as := [.int u6.toInt32]) (rest := []) (b := o) d_Fi_save_55 rfl (jw_By_putByte.jo (by decide)) lm_Fi_47 ji_By_putByte js_By_putByte (bo _ _) rfl rfl rfl (Nat.le_of_ble_eq_true rfl) (by decide) (by decide) (x_By_putByte G (bo _ _) (bd _ _) kd hne (show len + 19 < room by omega) hr2) (fun r M' hq => ?_)
  have eb : u6.toInt32.toInt8.toInt32 = Bv 19 := by
    rw [sb_of, hBv]
    show sb (u6.toInt % 256) = sb (X / 256 ^ 19 % 256)
    obtain ⟨R, hR⟩ := n7
    rw [hv6]; congr 1
    exact ls3 (d := 524288) hR (by decide) (by decide)
  rw [hq.1, hq.2, X_by hne, eb, bq_up len 19 Bv D]
  clear hq r M' eb
  refine T_eq (pc' := 58) (L' := [(5, .int (nI 27)), (3, .long u6), (6, .int (nI 6)), (0, .ref 78), (1, .ref f), (2, .ref o)]) (st' := []) (M' := (N.set dt (br room (bq len 20 Bv D))).set o (byO dt (len + 20))) rfl rfl rfl rfl ?_
  refine T_lload_n d_Fi_save_58 rfl ?_
  refine T_bipush (v := nI 8) d_Fi_save_59 (by decide) ?_
  refine T_lshr d_Fi_save_61 ?_
  refine T_topl (fun q20 eq20 => ?_)
  have tq20 : q20.toInt = u6.toInt / 256 := by rw [eq20]; exact nn_shr s8_ rg6 (by decide)
  clear eq20
  have rq20 : 0 ≤ q20.toInt ∧ q20.toInt < 2 ^ 19 := rl2 8 19 tq20 rg6
  have hq20 : q20.toInt = S7 / 1461501637330902918203684832716283019655932542976 := by rw [tq20, hv6, Int.ediv_ediv_of_nonneg (by decide)]; rfl
  refine T_lstore_n (L' := [(3, .long q20), (5, .int (nI 27)), (6, .int (nI 6)), (0, .ref 78), (1, .ref f), (2, .ref o)]) d_Fi_save_62 (by decide) rfl ?_
  refine T_iinc (x := nI 27) (L' := [(5, .int (nI 19)), (3, .long q20), (6, .int (nI 6)), (0, .ref 78), (1, .ref f), (2, .ref o)]) d_Fi_save_63 (by decide) rfl rfl ?_
  refine T_goto (tgt := 45) d_Fi_save_66 rfl ?_
  refine T_iload d_Fi_save_45 rfl ?_
  refine T_bipush (v := nI 8) d_Fi_save_47 (by decide) ?_
  refine T_icmp_lt d_Fi_save_49 (tgt := 69) rfl (fun c => absurd c (by decide)) (fun _ => ?_)
  refine T_aload_n (v := .ref o) d_Fi_save_52 rfl (Or.inr ⟨_, rfl⟩) ?_
  refine T_lload_n d_Fi_save_53 rfl ?_
  refine T_l2i d_Fi_save_54 ?_
  refine T_virtual (as := [.int q20.toInt32]) (rest := []) (b := o) d_Fi_save_55 rfl (jw_By_putByte.jo (by decide)) lm_Fi_47 ji_By_putByte js_By_putByte (bo _ _) rfl rfl rfl (Nat.le_of_ble_eq_true rfl) (by decide) (by decide) (x_By_putByte G (bo _ _) (bd _ _) kd hne (show len + 20 < room by omega) hr2) (fun r M' hq => ?_)
  have eb : q20.toInt32.toInt8.toInt32 = Bv 20 := by
    rw [sb_of, hBv]
    show sb (q20.toInt % 256) = sb (X / 256 ^ 20 % 256)
    obtain ⟨R, hR⟩ := n7
    rw [hq20]; congr 1
    exact ls3 (d := 2048) hR (by decide) (by decide)
  rw [hq.1, hq.2, X_by hne, eb, bq_up len 20 Bv D]
  clear hq r M' eb
  refine T_eq (pc' := 58) (L' := [(5, .int (nI 19)), (3, .long q20), (6, .int (nI 6)), (0, .ref 78), (1, .ref f), (2, .ref o)]) (st' := []) (M' := (N.set dt (br room (bq len 21 Bv D))).set o (byO dt (len + 21))) rfl rfl rfl rfl ?_
  refine T_lload_n d_Fi_save_58 rfl ?_
  refine T_bipush (v := nI 8) d_Fi_save_59 (by decide) ?_
  refine T_lshr d_Fi_save_61 ?_
  refine T_topl (fun q21 eq21 => ?_)
  have tq21 : q21.toInt = q20.toInt / 256 := by rw [eq21]; exact nn_shr s8_ rq20 (by decide)
  clear eq21
  have rq21 : 0 ≤ q21.toInt ∧ q21.toInt < 2 ^ 11 := rl2 8 11 tq21 rq20
  have hq21 : q21.toInt = S7 / 374144419156711147060143317175368453031918731001856 := by rw [tq21, hq20, Int.ediv_ediv_of_nonneg (by decide)]; rfl
  refine T_lstore_n (L' := [(3, .long q21), (5, .int (nI 19)), (6, .int (nI 6)), (0, .ref 78), (1, .ref f), (2, .ref o)]) d_Fi_save_62 (by decide) rfl ?_
  refine T_iinc (x := nI 19) (L' := [(5, .int (nI 11)), (3, .long q21), (6, .int (nI 6)), (0, .ref 78), (1, .ref f), (2, .ref o)]) d_Fi_save_63 (by decide) rfl rfl ?_
  refine T_goto (tgt := 45) d_Fi_save_66 rfl ?_
  refine T_iload d_Fi_save_45 rfl ?_
  refine T_bipush (v := nI 8) d_Fi_save_47 (by decide) ?_
  refine T_icmp_lt d_Fi_save_49 (tgt := 69) rfl (fun c => absurd c (by decide)) (fun _ => ?_)
  refine T_aload_n (v := .ref o) d_Fi_save_52 rfl (Or.inr ⟨_, rfl⟩) ?_
  refine T_lload_n d_Fi_save_53 rfl ?_
  refine T_l2i d_Fi_save_54 ?_
  refine T_virtual (as := [.int q21.toInt32]) (rest := []) (b := o) d_Fi_save_55 rfl (jw_By_putByte.jo (by decide)) lm_Fi_47 ji_By_putByte js_By_putByte (bo _ _) rfl rfl rfl (Nat.le_of_ble_eq_true rfl) (by decide) (by decide) (x_By_putByte G (bo _ _) (bd _ _) kd hne (show len + 21 < room by omega) hr2) (fun r M' hq => ?_)
  have eb : q21.toInt32.toInt8.toInt32 = Bv 21 := by
    rw [sb_of, hBv]
    show sb (q21.toInt % 256) = sb (X / 256 ^ 21 % 256)
    obtain ⟨R, hR⟩ := n7
    rw [hq21]; congr 1
    exact ls3 (d := 8) hR (by decide) (by decide)
  rw [hq.1, hq.2, X_by hne, eb, bq_up len 21 Bv D]
  clear hq r M' eb
  refine T_eq (pc' := 58) (L' := [(5, .int (nI 11)), (3, .long q21), (6, .int (nI 6)), (0, .ref 78), (1, .ref f), (2, .ref o)]) (st' := []) (M' := (N.set dt (br room (bq len 22 Bv D))).set o (byO dt (len + 22))) rfl rfl rfl rfl ?_
  refine T_lload_n d_Fi_save_58 rfl ?_
  refine T_bipush (v := nI 8) d_Fi_save_59 (by decide) ?_
  refine T_lshr d_Fi_save_61 ?_
  refine T_topl (fun q22 eq22 => ?_)
  have tq22 : q22.toInt = q21.toInt / 256 := by rw [eq22]; exact nn_shr s8_ rq21 (by decide)
  clear eq22
  have rq22 : 0 ≤ q22.toInt ∧ q22.toInt < 2 ^ 3 := rl2 8 3 tq22 rq21
  have hq22 : q22.toInt = S7 / 95780971304118053647396689196894323976171195136475136 := by rw [tq22, hq21, Int.ediv_ediv_of_nonneg (by decide)]; rfl
  refine T_lstore_n (L' := [(3, .long q22), (5, .int (nI 11)), (6, .int (nI 6)), (0, .ref 78), (1, .ref f), (2, .ref o)]) d_Fi_save_62 (by decide) rfl ?_
  refine T_iinc (x := nI 11) (L' := [(5, .int (nI 3)), (3, .long q22), (6, .int (nI 6)), (0, .ref 78), (1, .ref f), (2, .ref o)]) d_Fi_save_63 (by decide) rfl rfl ?_
  refine T_goto (tgt := 45) d_Fi_save_66 rfl ?_
  refine T_iload d_Fi_save_45 rfl ?_
  refine T_bipush (v := nI 8) d_Fi_save_47 (by decide) ?_
  refine T_icmp_lt d_Fi_save_49 (tgt := 69) rfl (fun _ => ?_) (fun c => absurd (by decide) c)
  refine T_iinc (x := nI 6) (L' := [(6, .int (nI 7)), (5, .int (nI 3)), (3, .long q22), (0, .ref 78), (1, .ref f), (2, .ref o)]) d_Fi_save_69 (by decide) rfl rfl ?_
  refine T_goto (tgt := 13) d_Fi_save_72 rfl ?_
  refine T_iload d_Fi_save_13 rfl ?_
  refine T_bipush (v := nI 10) d_Fi_save_15 (by decide) ?_
  refine T_icmp_ge d_Fi_save_17 (tgt := 75) rfl (fun c => absurd c (by decide)) (fun _ => ?_)
  refine T_lload_n d_Fi_save_20 rfl ?_
  refine T_aload_n (v := .ref 78) d_Fi_save_21 rfl (Or.inr ⟨_, rfl⟩) ?_
  refine T_getfield d_Fi_save_22 fg_Fi_9 (b8 _ _) rfl ?_
  refine T_iload d_Fi_save_25 rfl ?_
  refine T_laload d_Fi_save_27 (b9 _ _) (vp_in_nI (by decide) (by decide)) ?_
  refine T_eq (st' := [.long (W1 7), .long q22]) rfl rfl rfl rfl ?_
  refine T_iload d_Fi_save_28 rfl ?_
  refine T_lshl d_Fi_save_30 ?_
  refine T_lor d_Fi_save_31 ?_
  have st7 := orstep q22 (W1 7) 3 (by decide) rq22 ⟨g7.1, Int.lt_of_lt_of_le g7.2 (by decide)⟩
  refine T_topl (fun u7 eu7 => ?_)
  rw [← eu7] at st7
  clear eu7
  have rg7 : 0 ≤ u7.toInt ∧ u7.toInt < 2 ^ 28 := rl3 3 25 st7 rq22 g7
  have hv7 : u7.toInt = S8 / 95780971304118053647396689196894323976171195136475136 := by rw [st7, hq22, s8]; exact (ls2 (by decide) (by decide)).symm
  refine T_lstore_n (L' := [(3, .long u7), (6, .int (nI 7)), (5, .int (nI 3)), (0, .ref 78), (1, .ref f), (2, .ref o)]) d_Fi_save_32 (by decide) rfl ?_
  refine T_iload d_Fi_save_33 rfl ?_
  refine T_bipush (v := nI 26) d_Fi_save_35 (by decide) ?_
  refine T_iload d_Fi_save_37 rfl ?_
  refine T_iconst (v := nI 1) d_Fi_save_39 (by decide) ?_
  refine T_iand d_Fi_save_40 ?_
  refine T_isub d_Fi_save_41 ?_
  refine T_iadd d_Fi_save_42 ?_
  refine T_eq (st' := [.int (nI 28)]) rfl rfl rfl rfl ?_
  refine T_istore (L' := [(5, .int (nI 28)), (3, .long u7), (6, .int (nI 7)), (0, .ref 78), (1, .ref f), (2, .ref o)]) d_Fi_save_43 (by decide) rfl ?_
  refine T_iload d_Fi_save_45 rfl ?_
  refine T_bipush (v := nI 8) d_Fi_save_47 (by decide) ?_
  refine T_icmp_lt d_Fi_save_49 (tgt := 69) rfl (fun c => absurd c (by decide)) (fun _ => ?_)
  refine T_aload_n (v := .ref o) d_Fi_save_52 rfl (Or.inr ⟨_, rfl⟩) ?_
  refine T_lload_n d_Fi_save_53 rfl ?_
  refine T_l2i d_Fi_save_54 ?_
  refine T_virtual (as := [.int u7.toInt32]) (rest := []) (b := o) d_Fi_save_55 rfl (jw_By_putByte.jo (by decide)) lm_Fi_47 ji_By_putByte js_By_putByte (bo _ _) rfl rfl rfl (Nat.le_of_ble_eq_true rfl) (by decide) (by decide) (x_By_putByte G (bo _ _) (bd _ _) kd hne (show len + 22 < room by omega) hr2) (fun r M' hq => ?_)
  have eb : u7.toInt32.toInt8.toInt32 = Bv 22 := by
    rw [sb_of, hBv]
    show sb (u7.toInt % 256) = sb (X / 256 ^ 22 % 256)
    obtain ⟨R, hR⟩ := n8
    rw [hv7]; congr 1
    exact ls3 (d := 1048576) hR (by decide) (by decide)
  rw [hq.1, hq.2, X_by hne, eb, bq_up len 22 Bv D]
  clear hq r M' eb
  refine T_eq (pc' := 58) (L' := [(5, .int (nI 28)), (3, .long u7), (6, .int (nI 7)), (0, .ref 78), (1, .ref f), (2, .ref o)]) (st' := []) (M' := (N.set dt (br room (bq len 23 Bv D))).set o (byO dt (len + 23))) rfl rfl rfl rfl ?_
  refine T_lload_n d_Fi_save_58 rfl ?_
  refine T_bipush (v := nI 8) d_Fi_save_59 (by decide) ?_
  refine T_lshr d_Fi_save_61 ?_
  refine T_topl (fun q23 eq23 => ?_)
  have tq23 : q23.toInt = u7.toInt / 256 := by rw [eq23]; exact nn_shr s8_ rg7 (by decide)
  clear eq23
  have rq23 : 0 ≤ q23.toInt ∧ q23.toInt < 2 ^ 20 := rl2 8 20 tq23 rg7
  have hq23 : q23.toInt = S8 / 24519928653854221733733552434404946937899825954937634816 := by rw [tq23, hv7, Int.ediv_ediv_of_nonneg (by decide)]; rfl
  refine T_lstore_n (L' := [(3, .long q23), (5, .int (nI 28)), (6, .int (nI 7)), (0, .ref 78), (1, .ref f), (2, .ref o)]) d_Fi_save_62 (by decide) rfl ?_
  refine T_iinc (x := nI 28) (L' := [(5, .int (nI 20)), (3, .long q23), (6, .int (nI 7)), (0, .ref 78), (1, .ref f), (2, .ref o)]) d_Fi_save_63 (by decide) rfl rfl ?_
  refine T_goto (tgt := 45) d_Fi_save_66 rfl ?_
  refine T_iload d_Fi_save_45 rfl ?_
  refine T_bipush (v := nI 8) d_Fi_save_47 (by decide) ?_
  refine T_icmp_lt d_Fi_save_49 (tgt := 69) rfl (fun c => absurd c (by decide)) (fun _ => ?_)
  refine T_aload_n (v := .ref o) d_Fi_save_52 rfl (Or.inr ⟨_, rfl⟩) ?_
  refine T_lload_n d_Fi_save_53 rfl ?_
  refine T_l2i d_Fi_save_54 ?_
  refine T_virtual (as := [.int q23.toInt32]) (rest := []) (b := o) d_Fi_save_55 rfl (jw_By_putByte.jo (by decide)) lm_Fi_47 ji_By_putByte js_By_putByte (bo _ _) rfl rfl rfl (Nat.le_of_ble_eq_true rfl) (by decide) (by decide) (x_By_putByte G (bo _ _) (bd _ _) kd hne (show len + 23 < room by omega) hr2) (fun r M' hq => ?_)
  have eb : q23.toInt32.toInt8.toInt32 = Bv 23 := by
    rw [sb_of, hBv]
    show sb (q23.toInt % 256) = sb (X / 256 ^ 23 % 256)
    obtain ⟨R, hR⟩ := n8
    rw [hq23]; congr 1
    exact ls3 (d := 4096) hR (by decide) (by decide)
  rw [hq.1, hq.2, X_by hne, eb, bq_up len 23 Bv D]
  clear hq r M' eb
  refine T_eq (pc' := 58) (L' := [(5, .int (nI 20)), (3, .long q23), (6, .int (nI 7)), (0, .ref 78), (1, .ref f), (2, .ref o)]) (st' := []) (M' := (N.set dt (br room (bq len 24 Bv D))).set o (byO dt (len + 24))) rfl rfl rfl rfl ?_
  refine T_lload_n d_Fi_save_58 rfl ?_
  refine T_bipush (v := nI 8) d_Fi_save_59 (by decide) ?_
  refine T_lshr d_Fi_save_61 ?_
  refine T_topl (fun q24 eq24 => ?_)
  have tq24 : q24.toInt = q23.toInt / 256 := by rw [eq24]; exact nn_shr s8_ rq23 (by decide)
  clear eq24
  have rq24 : 0 ≤ q24.toInt ∧ q24.toInt < 2 ^ 12 := rl2 8 12 tq24 rq23
  have hq24 : q24.toInt = S8 / 6277101735386680763835789423207666416102355444464034512896 := by rw [tq24, hq23, Int.ediv_ediv_of_nonneg (by decide)]; rfl
  refine T_lstore_n (L' := [(3, .long q24), (5, .int (nI 20)), (6, .int (nI 7)), (0, .ref 78), (1, .ref f), (2, .ref o)]) d_Fi_save_62 (by decide) rfl ?_
  refine T_iinc (x := nI 20) (L' := [(5, .int (nI 12)), (3, .long q24), (6, .int (nI 7)), (0, .ref 78), (1, .ref f), (2, .ref o)]) d_Fi_save_63 (by decide) rfl rfl ?_
  refine T_goto (tgt := 45) d_Fi_save_66 rfl ?_
  refine T_iload d_Fi_save_45 rfl ?_
  refine T_bipush (v := nI 8) d_Fi_save_47 (by decide) ?_
  refine T_icmp_lt d_Fi_save_49 (tgt := 69) rfl (fun c => absurd c (by decide)) (fun _ => ?_)
  refine T_aload_n (v := .ref o) d_Fi_save_52 rfl (Or.inr ⟨_, rfl⟩) ?_
  refine T_lload_n d_Fi_save_53 rfl ?_
  refine T_l2i d_Fi_save_54 ?_
  refine T_virtual (as := [.int q24.toInt32]) (rest := []) (b := o) d_Fi_save_55 rfl (jw_By_putByte.jo (by decide)) lm_Fi_47 ji_By_putByte js_By_putByte (bo _ _) rfl rfl rfl (Nat.le_of_ble_eq_true rfl) (by decide) (by decide) (x_By_putByte G (bo _ _) (bd _ _) kd hne (show len + 24 < room by omega) hr2) (fun r M' hq => ?_)
  have eb : q24.toInt32.toInt8.toInt32 = Bv 24 := by
    rw [sb_of, hBv]
    show sb (q24.toInt % 256) = sb (X / 256 ^ 24 % 256)
    obtain ⟨R, hR⟩ := n8
    rw [hq24]; congr 1
    exact ls3 (d := 16) hR (by decide) (by decide)
  rw [hq.1, hq.2, X_by hne, eb, bq_up len 24 Bv D]
  clear hq r M' eb
  refine T_eq (pc' := 58) (L' := [(5, .int (nI 12)), (3, .long q24), (6, .int (nI 7)), (0, .ref 78), (1, .ref f), (2, .ref o)]) (st' := []) (M' := (N.set dt (br room (bq len 25 Bv D))).set o (byO dt (len + 25))) rfl rfl rfl rfl ?_
  refine T_lload_n d_Fi_save_58 rfl ?_
  refine T_bipush (v := nI 8) d_Fi_save_59 (by decide) ?_
  refine T_lshr d_Fi_save_61 ?_
  refine T_topl (fun q25 eq25 => ?_)
  have tq25 : q25.toInt = q24.toInt / 256 := by rw [eq25]; exact nn_shr s8_ rq24 (by decide)
  clear eq25
  have rq25 : 0 ≤ q25.toInt ∧ q25.toInt < 2 ^ 4 := rl2 8 4 tq25 rq24
  have hq25 : q25.toInt = S8 / 1606938044258990275541962092341162602522202993782792835301376 := by rw [tq25, hq24, Int.ediv_ediv_of_nonneg (by decide)]; rfl
  refine T_lstore_n (L' := [(3, .long q25), (5, .int (nI 12)), (6, .int (nI 7)), (0, .ref 78), (1, .ref f), (2, .ref o)]) d_Fi_save_62 (by decide) rfl ?_
  refine T_iinc (x := nI 12) (L' := [(5, .int (nI 4)), (3, .long q25), (6, .int (nI 7)), (0, .ref 78), (1, .ref f), (2, .ref o)]) d_Fi_save_63 (by decide) rfl rfl ?_
  refine T_goto (tgt := 45) d_Fi_save_66 rfl ?_
  refine T_iload d_Fi_save_45 rfl ?_
  refine T_bipush (v := nI 8) d_Fi_save_47 (by decide) ?_
  refine T_icmp_lt d_Fi_save_49 (tgt := 69) rfl (fun _ => ?_) (fun c => absurd (by decide) c)
  refine T_iinc (x := nI 7) (L' := [(6, .int (nI 8)), (5, .int (nI 4)), (3, .long q25), (0, .ref 78), (1, .ref f), (2, .ref o)]) d_Fi_save_69 (by decide) rfl rfl ?_
  refine T_goto (tgt := 13) d_Fi_save_72 rfl ?_
  refine T_iload d_Fi_save_13 rfl ?_
  refine T_bipush (v := nI 10) d_Fi_save_15 (by decide) ?_
  refine T_icmp_ge d_Fi_save_17 (tgt := 75) rfl (fun c => absurd c (by decide)) (fun _ => ?_)
  refine T_lload_n d_Fi_save_20 rfl ?_
  refine T_aload_n (v := .ref 78) d_Fi_save_21 rfl (Or.inr ⟨_, rfl⟩) ?_
  refine T_getfield d_Fi_save_22 fg_Fi_9 (b8 _ _) rfl ?_
  refine T_iload d_Fi_save_25 rfl ?_
  refine T_laload d_Fi_save_27 (b9 _ _) (vp_in_nI (by decide) (by decide)) ?_
  refine T_eq (st' := [.long (W1 8), .long q25]) rfl rfl rfl rfl ?_
  refine T_iload d_Fi_save_28 rfl ?_
  refine T_lshl d_Fi_save_30 ?_
  refine T_lor d_Fi_save_31 ?_
  have st8 := orstep q25 (W1 8) 4 (by decide) rq25 ⟨g8.1, Int.lt_of_lt_of_le g8.2 (by decide)⟩
  refine T_topl (fun u8 eu8 => ?_)
  rw [← eu8] at st8
  clear eu8
  have rg8 : 0 ≤ u8.toInt ∧ u8.toInt < 2 ^ 30 := rl3 4 26 st8 rq25 g8
  have hv8 : u8.toInt = S9 / 1606938044258990275541962092341162602522202993782792835301376 := by rw [st8, hq25, s9]; exact (ls2 (by decide) (by decide)).symm
  refine T_lstore_n (L' := [(3, .long u8), (6, .int (nI 8)), (5, .int (nI 4)), (0, .ref 78), (1, .ref f), (2, .ref o)]) d_Fi_save_32 (by decide) rfl ?_
  refine T_iload d_Fi_save_33 rfl ?_
  refine T_bipush (v := nI 26) d_Fi_save_35 (by decide) ?_
  refine T_iload d_Fi_save_37 rfl ?_
  refine T_iconst (v := nI 1) d_Fi_save_39 (by decide) ?_
  refine T_iand d_Fi_save_40 ?_
  refine T_isub d_Fi_save_41 ?_
  refine T_iadd d_Fi_save_42 ?_
  refine T_eq (st' := [.int (nI 30)]) rfl rfl rfl rfl ?_
  refine T_istore (L' := [(5, .int (nI 30)), (3, .long u8), (6, .int (nI 8)), (0, .ref 78), (1, .ref f), (2, .ref o)]) d_Fi_save_43 (by decide) rfl ?_
  refine T_iload d_Fi_save_45 rfl ?_
  refine T_bipush (v := nI 8) d_Fi_save_47 (by decide) ?_
  refine T_icmp_lt d_Fi_save_49 (tgt := 69) rfl (fun c => absurd c (by decide)) (fun _ => ?_)
  refine T_aload_n (v := .ref o) d_Fi_save_52 rfl (Or.inr ⟨_, rfl⟩) ?_
  refine T_lload_n d_Fi_save_53 rfl ?_
  refine T_l2i d_Fi_save_54 ?_
  refine T_virtual (as := [.int u8.toInt32]) (rest := []) (b := o) d_Fi_save_55 rfl (jw_By_putByte.jo (by decide)) lm_Fi_47 ji_By_putByte js_By_putByte (bo _ _) rfl rfl rfl (Nat.le_of_ble_eq_true rfl) (by decide) (by decide) (x_By_putByte G (bo _ _) (bd _ _) kd hne (show len + 25 < room by omega) hr2) (fun r M' hq => ?_)
  have eb : u8.toInt32.toInt8.toInt32 = Bv 25 := by
    rw [sb_of, hBv]
    show sb (u8.toInt % 256) = sb (X / 256 ^ 25 % 256)
    obtain ⟨R, hR⟩ := n9
    rw [hv8]; congr 1
    exact ls3 (d := 4194304) hR (by decide) (by decide)
  rw [hq.1, hq.2, X_by hne, eb, bq_up len 25 Bv D]
  clear hq r M' eb
  refine T_eq (pc' := 58) (L' := [(5, .int (nI 30)), (3, .long u8), (6, .int (nI 8)), (0, .ref 78), (1, .ref f), (2, .ref o)]) (st' := []) (M' := (N.set dt (br room (bq len 26 Bv D))).set o (byO dt (len + 26))) rfl rfl rfl rfl ?_
  refine T_lload_n d_Fi_save_58 rfl ?_
  refine T_bipush (v := nI 8) d_Fi_save_59 (by decide) ?_
  refine T_lshr d_Fi_save_61 ?_
  refine T_topl (fun q26 eq26 => ?_)
  have tq26 : q26.toInt = u8.toInt / 256 := by rw [eq26]; exact nn_shr s8_ rg8 (by decide)
  clear eq26
  have rq26 : 0 ≤ q26.toInt ∧ q26.toInt < 2 ^ 22 := rl2 8 22 tq26 rg8
  have hq26 : q26.toInt = S9 / 411376139330301510538742295639337626245683966408394965837152256 := by rw [tq26, hv8, Int.ediv_ediv_of_nonneg (by decide)]; rfl
  refine T_lstore_n (L' := [(3, .long q26), (5, .int (nI 30)), (6, .int (nI 8)), (0, .ref 78), (1, .ref f), (2, .ref o)]) d_Fi_save_62 (by decide) rfl ?_
  refine T_iinc (x := nI 30) (L' := [(5, .int (nI 22)), (3, .long q26), (6, .int (nI 8)), (0, .ref 78), (1, .ref f), (2, .ref o)]) d_Fi_save_63 (by decide) rfl rfl ?_
  refine T_goto (tgt := 45) d_Fi_save_66 rfl ?_
  refine T_iload d_Fi_save_45 rfl ?_
  refine T_bipush (v := nI 8) d_Fi_save_47 (by decide) ?_
  refine T_icmp_lt d_Fi_save_49 (tgt := 69) rfl (fun c => absurd c (by decide)) (fun _ => ?_)
  refine T_aload_n (v := .ref o) d_Fi_save_52 rfl (Or.inr ⟨_, rfl⟩) ?_
  refine T_lload_n d_Fi_save_53 rfl ?_
  refine T_l2i d_Fi_save_54 ?_
  refine T_virtual (as := [.int q26.toInt32]) (rest := []) (b := o) d_Fi_save_55 rfl (jw_By_putByte.jo (by decide)) lm_Fi_47 ji_By_putByte js_By_putByte (bo _ _) rfl rfl rfl (Nat.le_of_ble_eq_true rfl) (by decide) (by decide) (x_By_putByte G (bo _ _) (bd _ _) kd hne (show len + 26 < room by omega) hr2) (fun r M' hq => ?_)
  have eb : q26.toInt32.toInt8.toInt32 = Bv 26 := by
    rw [sb_of, hBv]
    show sb (q26.toInt % 256) = sb (X / 256 ^ 26 % 256)
    obtain ⟨R, hR⟩ := n9
    rw [hq26]; congr 1
    exact ls3 (d := 16384) hR (by decide) (by decide)
  rw [hq.1, hq.2, X_by hne, eb, bq_up len 26 Bv D]
  clear hq r M' eb
  refine T_eq (pc' := 58) (L' := [(5, .int (nI 22)), (3, .long q26), (6, .int (nI 8)), (0, .ref 78), (1, .ref f), (2, .ref o)]) (st' := []) (M' := (N.set dt (br room (bq len 27 Bv D))).set o (byO dt (len + 27))) rfl rfl rfl rfl ?_
  refine T_lload_n d_Fi_save_58 rfl ?_
  refine T_bipush (v := nI 8) d_Fi_save_59 (by decide) ?_
  refine T_lshr d_Fi_save_61 ?_
  refine T_topl (fun q27 eq27 => ?_)
  have tq27 : q27.toInt = q26.toInt / 256 := by rw [eq27]; exact nn_shr s8_ rq26 (by decide)
  clear eq27
  have rq27 : 0 ≤ q27.toInt ∧ q27.toInt < 2 ^ 14 := rl2 8 14 tq27 rq26
  have hq27 : q27.toInt = S9 / 105312291668557186697918027683670432318895095400549111254310977536 := by rw [tq27, hq26, Int.ediv_ediv_of_nonneg (by decide)]; rfl
  refine T_lstore_n (L' := [(3, .long q27), (5, .int (nI 22)), (6, .int (nI 8)), (0, .ref 78), (1, .ref f), (2, .ref o)]) d_Fi_save_62 (by decide) rfl ?_
  refine T_iinc (x := nI 22) (L' := [(5, .int (nI 14)), (3, .long q27), (6, .int (nI 8)), (0, .ref 78), (1, .ref f), (2, .ref o)]) d_Fi_save_63 (by decide) rfl rfl ?_
  refine T_goto (tgt := 45) d_Fi_save_66 rfl ?_
  refine T_iload d_Fi_save_45 rfl ?_
  refine T_bipush (v := nI 8) d_Fi_save_47 (by decide) ?_
  refine T_icmp_lt d_Fi_save_49 (tgt := 69) rfl (fun c => absurd c (by decide)) (fun _ => ?_)
  refine T_aload_n (v := .ref o) d_Fi_save_52 rfl (Or.inr ⟨_, rfl⟩) ?_
  refine T_lload_n d_Fi_save_53 rfl ?_
  refine T_l2i d_Fi_save_54 ?_
  refine T_virtual (as := [.int q27.toInt32]) (rest := []) (b := o) d_Fi_save_55 rfl (jw_By_putByte.jo (by decide)) lm_Fi_47 ji_By_putByte js_By_putByte (bo _ _) rfl rfl rfl (Nat.le_of_ble_eq_true rfl) (by decide) (by decide) (x_By_putByte G (bo _ _) (bd _ _) kd hne (show len + 27 < room by omega) hr2) (fun r M' hq => ?_)
  have eb : q27.toInt32.toInt8.toInt32 = Bv 27 := by
    rw [sb_of, hBv]
    show sb (q27.toInt % 256) = sb (X / 256 ^ 27 % 256)
    obtain ⟨R, hR⟩ := n9
    rw [hq27]; congr 1
    exact ls3 (d := 64) hR (by decide) (by decide)
  rw [hq.1, hq.2, X_by hne, eb, bq_up len 27 Bv D]
  clear hq r M' eb
  refine T_eq (pc' := 58) (L' := [(5, .int (nI 14)), (3, .long q27), (6, .int (nI 8)), (0, .ref 78), (1, .ref f), (2, .ref o)]) (st' := []) (M' := (N.set dt (br room (bq len 28 Bv D))).set o (byO dt (len + 28))) rfl rfl rfl rfl ?_
  refine T_lload_n d_Fi_save_58 rfl ?_
  refine T_bipush (v := nI 8) d_Fi_save_59 (by decide) ?_
  refine T_lshr d_Fi_save_61 ?_
  refine T_topl (fun q28 eq28 => ?_)
  have tq28 : q28.toInt = q27.toInt / 256 := by rw [eq28]; exact nn_shr s8_ rq27 (by decide)
  clear eq28
  have rq28 : 0 ≤ q28.toInt ∧ q28.toInt < 2 ^ 6 := rl2 8 6 tq28 rq27
  have hq28 : q28.toInt = S9 / 26959946667150639794667015087019630673637144422540572481103610249216 := by rw [tq28, hq27, Int.ediv_ediv_of_nonneg (by decide)]; rfl
  refine T_lstore_n (L' := [(3, .long q28), (5, .int (nI 14)), (6, .int (nI 8)), (0, .ref 78), (1, .ref f), (2, .ref o)]) d_Fi_save_62 (by decide) rfl ?_
  refine T_iinc (x := nI 14) (L' := [(5, .int (nI 6)), (3, .long q28), (6, .int (nI 8)), (0, .ref 78), (1, .ref f), (2, .ref o)]) d_Fi_save_63 (by decide) rfl rfl ?_
  refine T_goto (tgt := 45) d_Fi_save_66 rfl ?_
  refine T_iload d_Fi_save_45 rfl ?_
  refine T_bipush (v := nI 8) d_Fi_save_47 (by decide) ?_
  refine T_icmp_lt d_Fi_save_49 (tgt := 69) rfl (fun _ => ?_) (fun c => absurd (by decide) c)
  refine T_iinc (x := nI 8) (L' := [(6, .int (nI 9)), (5, .int (nI 6)), (3, .long q28), (0, .ref 78), (1, .ref f), (2, .ref o)]) d_Fi_save_69 (by decide) rfl rfl ?_
  refine T_goto (tgt := 13) d_Fi_save_72 rfl ?_
  refine T_iload d_Fi_save_13 rfl ?_
  refine T_bipush (v := nI 10) d_Fi_save_15 (by decide) ?_
  refine T_icmp_ge d_Fi_save_17 (tgt := 75) rfl (fun c => absurd c (by decide)) (fun _ => ?_)
  refine T_lload_n d_Fi_save_20 rfl ?_
  refine T_aload_n (v := .ref 78) d_Fi_save_21 rfl (Or.inr ⟨_, rfl⟩) ?_
  refine T_getfield d_Fi_save_22 fg_Fi_9 (b8 _ _) rfl ?_
  refine T_iload d_Fi_save_25 rfl ?_
  refine T_laload d_Fi_save_27 (b9 _ _) (vp_in_nI (by decide) (by decide)) ?_
  refine T_eq (st' := [.long (W1 9), .long q28]) rfl rfl rfl rfl ?_
  refine T_iload d_Fi_save_28 rfl ?_
  refine T_lshl d_Fi_save_30 ?_
  refine T_lor d_Fi_save_31 ?_
  have st9 := orstep q28 (W1 9) 6 (by decide) rq28 ⟨g9.1, Int.lt_of_lt_of_le g9.2 (by decide)⟩
  refine T_topl (fun u9 eu9 => ?_)
  rw [← eu9] at st9
  clear eu9
  have rg9 : 0 ≤ u9.toInt ∧ u9.toInt < 2 ^ 31 := rl3 6 25 st9 rq28 g9
  have hv9 : u9.toInt = S10 / 26959946667150639794667015087019630673637144422540572481103610249216 := by rw [st9, hq28, s10]; exact (ls2 (by decide) (by decide)).symm
  refine T_lstore_n (L' := [(3, .long u9), (6, .int (nI 9)), (5, .int (nI 6)), (0, .ref 78), (1, .ref f), (2, .ref o)]) d_Fi_save_32 (by decide) rfl ?_
  refine T_iload d_Fi_save_33 rfl ?_
  refine T_bipush (v := nI 26) d_Fi_save_35 (by decide) ?_
  refine T_iload d_Fi_save_37 rfl ?_
  refine T_iconst (v := nI 1) d_Fi_save_39 (by decide) ?_
  refine T_iand d_Fi_save_40 ?_
  refine T_isub d_Fi_save_41 ?_
  refine T_iadd d_Fi_save_42 ?_
  refine T_eq (st' := [.int (nI 31)]) rfl rfl rfl rfl ?_
  refine T_istore (L' := [(5, .int (nI 31)), (3, .long u9), (6, .int (nI 9)), (0, .ref 78), (1, .ref f), (2, .ref o)]) d_Fi_save_43 (by decide) rfl ?_
  refine T_iload d_Fi_save_45 rfl ?_
  refine T_bipush (v := nI 8) d_Fi_save_47 (by decide) ?_
  refine T_icmp_lt d_Fi_save_49 (tgt := 69) rfl (fun c => absurd c (by decide)) (fun _ => ?_)
  refine T_aload_n (v := .ref o) d_Fi_save_52 rfl (Or.inr ⟨_, rfl⟩) ?_
  refine T_lload_n d_Fi_save_53 rfl ?_
  refine T_l2i d_Fi_save_54 ?_
  refine T_virtual (as := [.int u9.toInt32]) (rest := []) (b := o) d_Fi_save_55 rfl (jw_By_putByte.jo (by decide)) lm_Fi_47 ji_By_putByte js_By_putByte (bo _ _) rfl rfl rfl (Nat.le_of_ble_eq_true rfl) (by decide) (by decide) (x_By_putByte G (bo _ _) (bd _ _) kd hne (show len + 28 < room by omega) hr2) (fun r M' hq => ?_)
  have eb : u9.toInt32.toInt8.toInt32 = Bv 28 := by
    rw [sb_of, hBv]
    show sb (u9.toInt % 256) = sb (X / 256 ^ 28 % 256)
    obtain ⟨R, hR⟩ := n10
    rw [hv9]; congr 1
    exact ls3 (d := 8388608) hR (by decide) (by decide)
  rw [hq.1, hq.2, X_by hne, eb, bq_up len 28 Bv D]
  clear hq r M' eb
  refine T_eq (pc' := 58) (L' := [(5, .int (nI 31)), (3, .long u9), (6, .int (nI 9)), (0, .ref 78), (1, .ref f), (2, .ref o)]) (st' := []) (M' := (N.set dt (br room (bq len 29 Bv D))).set o (byO dt (len + 29))) rfl rfl rfl rfl ?_
  refine T_lload_n d_Fi_save_58 rfl ?_
  refine T_bipush (v := nI 8) d_Fi_save_59 (by decide) ?_
  refine T_lshr d_Fi_save_61 ?_
  refine T_topl (fun q29 eq29 => ?_)
  have tq29 : q29.toInt = u9.toInt / 256 := by rw [eq29]; exact nn_shr s8_ rg9 (by decide)
  clear eq29
  have rq29 : 0 ≤ q29.toInt ∧ q29.toInt < 2 ^ 23 := rl2 8 23 tq29 rg9
  have hq29 : q29.toInt = S10 / 6901746346790563787434755862277025452451108972170386555162524223799296 := by rw [tq29, hv9, Int.ediv_ediv_of_nonneg (by decide)]; rfl
  refine T_lstore_n (L' := [(3, .long q29), (5, .int (nI 31)), (6, .int (nI 9)), (0, .ref 78), (1, .ref f), (2, .ref o)]) d_Fi_save_62 (by decide) rfl ?_
  refine T_iinc (x := nI 31) (L' := [(5, .int (nI 23)), (3, .long q29), (6, .int (nI 9)), (0, .ref 78), (1, .ref f), (2, .ref o)]) d_Fi_save_63 (by decide) rfl rfl ?_
  refine T_goto (tgt := 45) d_Fi_save_66 rfl ?_
  refine T_iload d_Fi_save_45 rfl ?_
  refine T_bipush (v := nI 8) d_Fi_save_47 (by decide) ?_
  refine T_icmp_lt d_Fi_save_49 (tgt := 69) rfl (fun c => absurd c (by decide)) (fun _ => ?_)
  refine T_aload_n (v := .ref o) d_Fi_save_52 rfl (Or.inr ⟨_, rfl⟩) ?_
  refine T_lload_n d_Fi_save_53 rfl ?_
  refine T_l2i d_Fi_save_54 ?_
  refine T_virtual (as := [.int q29.toInt32]) (rest := []) (b := o) d_Fi_save_55 rfl (jw_By_putByte.jo (by decide)) lm_Fi_47 ji_By_putByte js_By_putByte (bo _ _) rfl rfl rfl (Nat.le_of_ble_eq_true rfl) (by decide) (by decide) (x_By_putByte G (bo _ _) (bd _ _) kd hne (show len + 29 < room by omega) hr2) (fun r M' hq => ?_)
  have eb : q29.toInt32.toInt8.toInt32 = Bv 29 := by
    rw [sb_of, hBv]
    show sb (q29.toInt % 256) = sb (X / 256 ^ 29 % 256)
    obtain ⟨R, hR⟩ := n10
    rw [hq29]; congr 1
    exact ls3 (d := 32768) hR (by decide) (by decide)
  rw [hq.1, hq.2, X_by hne, eb, bq_up len 29 Bv D]
  clear hq r M' eb
  refine T_eq (pc' := 58) (L' := [(5, .int (nI 23)), (3, .long q29), (6, .int (nI 9)), (0, .ref 78), (1, .ref f), (2, .ref o)]) (st' := []) (M' := (N.set dt (br room (bq len 30 Bv D))).set o (byO dt (len + 30))) rfl rfl rfl rfl ?_
  refine T_lload_n d_Fi_save_58 rfl ?_
  refine T_bipush (v := nI 8) d_Fi_save_59 (by decide) ?_
  refine T_lshr d_Fi_save_61 ?_
  refine T_topl (fun q30 eq30 => ?_)
  have tq30 : q30.toInt = q29.toInt / 256 := by rw [eq30]; exact nn_shr s8_ rq29 (by decide)
  clear eq30
  have rq30 : 0 ≤ q30.toInt ∧ q30.toInt < 2 ^ 15 := rl2 8 15 tq30 rq29
  have hq30 : q30.toInt = S10 / 1766847064778384329583297500742918515827483896875618958121606201292619776 := by rw [tq30, hq29, Int.ediv_ediv_of_nonneg (by decide)]; rfl
  refine T_lstore_n (L' := [(3, .long q30), (5, .int (nI 23)), (6, .int (nI 9)), (0, .ref 78), (1, .ref f), (2, .ref o)]) d_Fi_save_62 (by decide) rfl ?_
  refine T_iinc (x := nI 23) (L' := [(5, .int (nI 15)), (3, .long q30), (6, .int (nI 9)), (0, .ref 78), (1, .ref f), (2, .ref o)]) d_Fi_save_63 (by decide) rfl rfl ?_
  refine T_goto (tgt := 45) d_Fi_save_66 rfl ?_
  refine T_iload d_Fi_save_45 rfl ?_
  refine T_bipush (v := nI 8) d_Fi_save_47 (by decide) ?_
  refine T_icmp_lt d_Fi_save_49 (tgt := 69) rfl (fun c => absurd c (by decide)) (fun _ => ?_)
  refine T_aload_n (v := .ref o) d_Fi_save_52 rfl (Or.inr ⟨_, rfl⟩) ?_
  refine T_lload_n d_Fi_save_53 rfl ?_
  refine T_l2i d_Fi_save_54 ?_
  refine T_virtual (as := [.int q30.toInt32]) (rest := []) (b := o) d_Fi_save_55 rfl (jw_By_putByte.jo (by decide)) lm_Fi_47 ji_By_putByte js_By_putByte (bo _ _) rfl rfl rfl (Nat.le_of_ble_eq_true rfl) (by decide) (by decide) (x_By_putByte G (bo _ _) (bd _ _) kd hne (show len + 30 < room by omega) hr2) (fun r M' hq => ?_)
  have eb : q30.toInt32.toInt8.toInt32 = Bv 30 := by
    rw [sb_of, hBv]
    show sb (q30.toInt % 256) = sb (X / 256 ^ 30 % 256)
    obtain ⟨R, hR⟩ := n10
    rw [hq30]; congr 1
    exact ls3 (d := 128) hR (by decide) (by decide)
  rw [hq.1, hq.2, X_by hne, eb, bq_up len 30 Bv D]
  clear hq r M' eb
  refine T_eq (pc' := 58) (L' := [(5, .int (nI 15)), (3, .long q30), (6, .int (nI 9)), (0, .ref 78), (1, .ref f), (2, .ref o)]) (st' := []) (M' := (N.set dt (br room (bq len 31 Bv D))).set o (byO dt (len + 31))) rfl rfl rfl rfl ?_
  refine T_lload_n d_Fi_save_58 rfl ?_
  refine T_bipush (v := nI 8) d_Fi_save_59 (by decide) ?_
  refine T_lshr d_Fi_save_61 ?_
  refine T_topl (fun q31 eq31 => ?_)
  have tq31 : q31.toInt = q30.toInt / 256 := by rw [eq31]; exact nn_shr s8_ rq30 (by decide)
  clear eq31
  have rq31 : 0 ≤ q31.toInt ∧ q31.toInt < 2 ^ 7 := rl2 8 7 tq31 rq30
  have hq31 : q31.toInt = S10 / 452312848583266388373324160190187140051835877600158453279131187530910662656 := by rw [tq31, hq30, Int.ediv_ediv_of_nonneg (by decide)]; rfl
  refine T_lstore_n (L' := [(3, .long q31), (5, .int (nI 15)), (6, .int (nI 9)), (0, .ref 78), (1, .ref f), (2, .ref o)]) d_Fi_save_62 (by decide) rfl ?_
  refine T_iinc (x := nI 15) (L' := [(5, .int (nI 7)), (3, .long q31), (6, .int (nI 9)), (0, .ref 78), (1, .ref f), (2, .ref o)]) d_Fi_save_63 (by decide) rfl rfl ?_
  refine T_goto (tgt := 45) d_Fi_save_66 rfl ?_
  refine T_iload d_Fi_save_45 rfl ?_
  refine T_bipush (v := nI 8) d_Fi_save_47 (by decide) ?_
  refine T_icmp_lt d_Fi_save_49 (tgt := 69) rfl (fun _ => ?_) (fun c => absurd (by decide) c)
  refine T_iinc (x := nI 9) (L' := [(6, .int (nI 10)), (5, .int (nI 7)), (3, .long q31), (0, .ref 78), (1, .ref f), (2, .ref o)]) d_Fi_save_69 (by decide) rfl rfl ?_
  refine T_goto (tgt := 13) d_Fi_save_72 rfl ?_
  refine T_iload d_Fi_save_13 rfl ?_
  refine T_bipush (v := nI 10) d_Fi_save_15 (by decide) ?_
  refine T_icmp_ge d_Fi_save_17 (tgt := 75) rfl (fun _ => ?_) (fun c => absurd (by decide) c)
  refine T_aload_n (v := .ref o) d_Fi_save_75 rfl (Or.inr ⟨_, rfl⟩) ?_
  refine T_lload_n d_Fi_save_76 rfl ?_
  refine T_l2i d_Fi_save_77 ?_
  refine T_virtual (as := [.int q31.toInt32]) (rest := []) (b := o) d_Fi_save_78 rfl (jw_By_putByte.jo (by decide)) lm_Fi_47 ji_By_putByte js_By_putByte (bo _ _) rfl rfl rfl (Nat.le_of_ble_eq_true rfl) (by decide) (by decide) (x_By_putByte G (bo _ _) (bd _ _) kd hne (show len + 31 < room by omega) hr2) (fun r M' hq => ?_)
  have eb : q31.toInt32.toInt8.toInt32 = Bv 31 := by
    rw [sb_of, hBv]
    show sb (q31.toInt % 256) = sb (X / 256 ^ 31 % 256)
    obtain ⟨R, hR⟩ := n10
    rw [hq31]; congr 1
    rw [n10_]; rfl
  rw [hq.1, hq.2, X_by hne, eb, bq_up len 31 Bv D]
  clear hq r M' eb
  exact T_vret d_Fi_save_81 rfl (by decide) (by decide) ⟨rfl, rfl⟩
theorem or32 (a b c : Int32) : a ||| (b ^^^ c) = 0 ↔ a = 0 ∧ b = c := by
  rw [← Int32.toBitVec_inj, ← Int32.toBitVec_inj (a := a), ← Int32.toBitVec_inj (a := b), Int32.toBitVec_or, Int32.toBitVec_xor]
  show a.toBitVec ||| (b.toBitVec ^^^ c.toBitVec) = 0#32 ↔ a.toBitVec = 0#32 ∧ _
  rw [BitVec.or_eq_zero_iff, BitVec.xor_eq_zero_iff]
set_option maxHeartbeats 8000000 in
theorem xl_By_endsLike (G : GX) {M : List va_E} {o dt room len ot oa m : Nat} {D f : Nat → Int32} (ho : M[o]? = some (byO dt len)) (hd : M[dt]? = some (br room D)) (hot : M[ot]? = some (br m f)) (hlr : len ≤ room) (hr : room < 2 ^ 30) (hm : oa + len ≤ m) (hm2 : m < 2 ^ 30) {Q : Option Value → List va_E → Prop} (kk : ∀ z : Int32, (z = 0 ↔ ∀ i, i < len → D i = f (oa + i)) → TT G mi_By_endsLike 65 [(4, .int z), (0, .ref o), (1, .int (nI 0)), (2, .ref ot), (3, .int (nI oa))] [] M 0 0 Q) : ∀ j k (z : Int32), k + j = len → (z = 0 ↔ ∀ i, i < k → D i = f (oa + i)) → TT G mi_By_endsLike 29 [(5, .int (nI k)), (4, .int z), (0, .ref o), (1, .int (nI 0)), (2, .ref ot), (3, .int (nI oa))] [] M 0 0 Q := by
  intro j
  induction j with
  | zero =>
    intro k z hk hz
    have : k = len := by omega
    subst this
    refine T_iload d_By_endsLike_29 rfl ?_
    refine T_aload_n (v := .ref o) d_By_endsLike_31 rfl (Or.inr ⟨_, rfl⟩) ?_
    refine T_getfield d_By_endsLike_32 fg_By_13 ho rfl ?_
    refine T_icmp_ge d_By_endsLike_35 (tgt := 65) rfl (fun _ => ?_) (fun c => absurd (Int32.le_refl _) c)
    exact T_sub (fun q hq => List.mem_cons_of_mem _ hq) (kk z hz)
  | succ j ih =>
    intro k z hk hz
    refine T_iload d_By_endsLike_29 rfl ?_
    refine T_aload_n (v := .ref o) d_By_endsLike_31 rfl (Or.inr ⟨_, rfl⟩) ?_
    refine T_getfield d_By_endsLike_32 fg_By_13 ho rfl ?_
    refine T_icmp_ge d_By_endsLike_35 (tgt := 65) rfl (fun c => absurd ((nI_leI (by omega) (by omega)).mp c) (by omega)) (fun _ => ?_)
    refine T_iload d_By_endsLike_38 rfl ?_
    refine T_aload_n (v := .ref o) d_By_endsLike_40 rfl (Or.inr ⟨_, rfl⟩) ?_
    refine T_getfield d_By_endsLike_41 fg_By_7 ho rfl ?_
    refine T_iload d_By_endsLike_44 rfl ?_
    refine T_baload d_By_endsLike_46 hd (vp_in_nI (by omega) (by omega)) (fun _ => ?_)
    rw [nI_clamp (by omega)]
    refine T_aload_n (v := .ref ot) d_By_endsLike_47 rfl (Or.inr ⟨_, rfl⟩) ?_
    refine T_iload_n d_By_endsLike_48 rfl ?_
    refine T_iload d_By_endsLike_49 rfl ?_
    refine T_iadd d_By_endsLike_51 ?_
    refine T_iload_n d_By_endsLike_52 rfl ?_
    refine T_isub d_By_endsLike_53 ?_
    rw [nI_add, pk_sub (Nat.zero_le _), Nat.sub_zero]
    refine T_baload d_By_endsLike_54 hot (vp_in_nI (by omega) (by omega)) (fun _ => ?_)
    rw [nI_clamp (by omega)]
    refine T_ixor d_By_endsLike_55 ?_
    refine T_ior d_By_endsLike_56 ?_
    refine T_istore (L' := [(4, .int (z ||| (D k ^^^ f (oa + k)))), (5, .int (nI k)), (0, .ref o), (1, .int (nI 0)), (2, .ref ot), (3, .int (nI oa))]) d_By_endsLike_57 (by decide) rfl ?_
    refine T_iinc (x := nI k) (L' := [(5, .int (nI (k + 1))), (4, .int (z ||| (D k ^^^ f (oa + k)))), (0, .ref o), (1, .int (nI 0)), (2, .ref ot), (3, .int (nI oa))]) d_By_endsLike_59 (by decide) rfl (by rw [show Int32.ofInt 1 = nI 1 from rfl, nI_add]; rfl) ?_
    refine T_goto (tgt := 29) d_By_endsLike_62 rfl ?_
    refine ih (k + 1) _ (by omega) ?_
    rw [or32, hz]
    constructor
    · intro ⟨h1, h2⟩ i hi
      rcases Nat.lt_or_ge i k with h | h
      · exact h1 i h
      · rw [show i = k by omega]; exact h2
    · intro h
      exact ⟨fun i hi => h i (by omega), h k (by omega)⟩
set_option maxHeartbeats 8000000 in
theorem x_By_endsLike (G : GX) {M : List va_E} {o dt room len ot oa m : Nat} {D f : Nat → Int32} (ho : M[o]? = some (byO dt len)) (hd : M[dt]? = some (br room D)) (hot : M[ot]? = some (br m f)) (kot : K0 ≤ ot) (hlr : len ≤ room) (hr : room < 2 ^ 30) (hm : oa + len ≤ m) (hm2 : m < 2 ^ 30) : CT G mi_By_endsLike [.ref o, .int (nI 0), .ref ot, .int (nI oa)] M (fun r M' => (∃ z : Nat, r = some (.int (nI z)) ∧ ((z = 1 ∧ ∀ i, i < len → D i = f (oa + i)) ∨ (z = 0 ∧ ¬ ∀ i, i < len → D i = f (oa + i)))) ∧ M' = M) := by
  refine CT.of (by decide) (Nat.le_of_ble_eq_true rfl) ?_
  show TT G mi_By_endsLike 0 [(0, .ref o), (1, .int (nI 0)), (2, .ref ot), (3, .int (nI oa))] [] M 0 0 _
  refine T_iload_n d_By_endsLike_0 rfl ?_
  refine T_if_lt d_By_endsLike_1 (tgt := 21) rfl (fun c => absurd c (by decide)) (fun _ => ?_)
  refine T_iload_n d_By_endsLike_4 rfl ?_
  refine T_if_lt d_By_endsLike_5 (tgt := 21) rfl (fun c => absurd c (nI_pos (by omega))) (fun _ => ?_)
  refine T_iload_n d_By_endsLike_8 rfl ?_
  refine T_aload_n (v := .ref o) d_By_endsLike_9 rfl (Or.inr ⟨_, rfl⟩) ?_
  refine T_getfield d_By_endsLike_10 fg_By_13 ho rfl ?_
  refine T_iadd d_By_endsLike_13 ?_
  refine T_iload_n d_By_endsLike_14 rfl ?_
  refine T_isub d_By_endsLike_15 ?_
  rw [nI_add, pk_sub (Nat.zero_le _), Nat.sub_zero]
  refine T_aload_n (v := .ref ot) d_By_endsLike_16 rfl (Or.inr ⟨_, rfl⟩) ?_
  refine T_alen (v := nI m) (ty := .byte) d_By_endsLike_17 kot hot rfl rfl ?_
  refine T_icmp_le d_By_endsLike_18 (tgt := 23) rfl (fun _ => ?_) (fun c => absurd ((nI_leI (by omega) (by omega)).mpr hm) c)
  refine T_iconst (v := nI 0) d_By_endsLike_23 (by decide) ?_
  refine T_istore (L' := [(4, .int (nI 0)), (0, .ref o), (1, .int (nI 0)), (2, .ref ot), (3, .int (nI oa))]) d_By_endsLike_24 (by decide) rfl ?_
  refine T_iload_n d_By_endsLike_26 rfl ?_
  refine T_istore (L' := [(5, .int (nI 0)), (4, .int (nI 0)), (0, .ref o), (1, .int (nI 0)), (2, .ref ot), (3, .int (nI oa))]) d_By_endsLike_27 (by decide) rfl ?_
  refine xl_By_endsLike G ho hd hot hlr hr hm hm2 (fun z hz => ?_) len 0 (nI 0) (by omega) ⟨fun _ i hi => absurd hi (by omega), fun _ => rfl⟩
  refine T_iload d_By_endsLike_65 rfl ?_
  refine T_if_ne d_By_endsLike_67 (tgt := 74) rfl (fun c => ?_) (fun c => ?_)
  · refine T_iconst (v := nI 0) d_By_endsLike_74 (by decide) ?_
    exact T_ret d_By_endsLike_75 rfl (by decide) (by decide) (by decide) ⟨⟨0, rfl, Or.inr ⟨rfl, fun h => c (hz.mpr h)⟩⟩, rfl⟩
  · refine T_iconst (v := nI 1) d_By_endsLike_70 (by decide) ?_
    refine T_goto (tgt := 75) d_By_endsLike_71 rfl ?_
    exact T_ret d_By_endsLike_75 rfl (by decide) (by decide) (by decide) ⟨⟨1, rfl, Or.inl ⟨rfl, hz.mp c⟩⟩, rfl⟩
theorem x_By_clear (G : GX) {M : List va_E} {o dt len : Nat} (ho : M[o]? = some (byO dt len)) : CT G mi_By_clear [.ref o] M (fun r M' => r = none ∧ M' = M.set o (byO dt 0)) := by
  refine CT.of (by decide) (Nat.le_of_ble_eq_true rfl) ?_
  show TT G mi_By_clear 0 [(0, .ref o)] [] M 0 0 _
  refine T_aload_n (v := .ref o) d_By_clear_0 rfl (Or.inr ⟨_, rfl⟩) ?_
  refine T_iconst (v := nI 0) d_By_clear_1 (by decide) ?_
  refine T_putfield d_By_clear_2 (fp_By_13 _) ho (by show 1 < 2; decide) ⟨rfl, rfl⟩ rfl ?_
  exact T_vret d_By_clear_5 rfl (by decide) (by decide) ⟨rfl, rfl⟩
