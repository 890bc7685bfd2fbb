/-! HOW MANY BITS: the class's sum -/
theorem cn_app (p : Nat → Bool) : ∀ d e k, cn p k (d + e) = cn p k d + cn p (k + d) e
  | 0, e, k => by rw [Nat.zero_add, Nat.add_zero]; show _ = 0 + _; omega
  | d + 1, e, k => by
    rw [show d + 1 + e = (d + e) + 1 by omega, cn_s, cn_s, cn_app p d e (k + 1), show k + 1 + d = k + (d + 1) by omega]
    omega
theorem cn_shift (p : Nat → Bool) (c : Nat) : ∀ d k, cn p (k + c) d = cn (fun i => p (i + c)) k d
  | 0, _ => rfl
  | d + 1, k => by
    rw [cn_s, cn_s, ← cn_shift p c d (k + 1), show k + 1 + c = k + c + 1 by omega]
theorem and_split {b m N K : Nat} (hb : b < 256) (hm : m < 256) : (b + 256 * N) &&& (m + 256 * K) = (b &&& m) + 256 * (N &&& K) := by
  have hbm : b &&& m < 2 ^ 8 := Nat.lt_of_le_of_lt Nat.and_le_left hb
  apply Nat.eq_of_testBit_eq
  intro i
  rw [Nat.testBit_and, Nat.add_comm b, Nat.add_comm m, Nat.add_comm (b &&& m), show (256 : Nat) = 2 ^ 8 from rfl, Nat.testBit_two_pow_mul_add _ (show b < 2 ^ 8 from hb), Nat.testBit_two_pow_mul_add _ (show m < 2 ^ 8 from hm), Nat.testBit_two_pow_mul_add _ hbm]
  by_cases c : i < 8
  · rw [if_pos c, if_pos c, if_pos c, Nat.testBit_and]
  · rw [if_neg c, if_neg c, if_neg c, Nat.testBit_and]
def F1 (b : Nat) : Nat := b - ((b / 2) &&& 0x55)
def F2 (c : Nat) : Nat := (c &&& 0x33) + ((c / 4) &&& 0x33)
def F3 (d : Nat) : Nat := (d + d / 16) % 16
theorem F1_ok : ∀ b, b < 256 → (b / 2) &&& 0x55 ≤ b ∧ F1 b < 256 ∧ F2 (F1 b) ≤ 68 ∧ F2 (F1 b) % 16 ≤ 4 ∧ F2 (F1 b) / 16 ≤ 4 ∧ F3 (F2 (F1 b)) = cn (fun i => b.testBit i) 0 8 := by decide +kernel
theorem F_s1 : ∀ b, b < 256 → ∀ t, t < 2 → (b / 2 + 128 * t) &&& 0x55 = (b / 2) &&& 0x55 := by decide +kernel
theorem F_s2 : ∀ b, b < 256 → ∀ t, t < 4 → (b / 4 + 64 * t) &&& 0x33 = (b / 4) &&& 0x33 := by decide +kernel
theorem F_st1 {b N K : Nat} (hb : b < 256) (h : (N / 2) &&& K ≤ N) : ((b + 256 * N) / 2) &&& (0x55 + 256 * K) = ((b / 2) &&& 0x55) + 256 * ((N / 2) &&& K) ∧ (b + 256 * N) - (((b + 256 * N) / 2) &&& (0x55 + 256 * K)) = F1 b + 256 * (N - ((N / 2) &&& K)) := by
  have e : (b + 256 * N) / 2 = (b / 2 + 128 * (N % 2)) + 256 * (N / 2) := by omega
  have e1 : ((b + 256 * N) / 2) &&& (0x55 + 256 * K) = ((b / 2) &&& 0x55) + 256 * ((N / 2) &&& K) := by
    rw [e, and_split (by omega) (by omega), F_s1 b hb (N % 2) (by omega)]
  refine ⟨e1, ?_⟩
  rw [e1]
  obtain ⟨a1, -⟩ := F1_ok b hb
  unfold F1
  omega
theorem F_st2 {c N K : Nat} (hc : c < 256) : ((c + 256 * N) &&& (0x33 + 256 * K)) + (((c + 256 * N) / 4) &&& (0x33 + 256 * K)) = F2 c + 256 * ((N &&& K) + ((N / 4) &&& K)) := by
  have e : (c + 256 * N) / 4 = (c / 4 + 64 * (N % 4)) + 256 * (N / 4) := by omega
  rw [and_split hc (by omega), e, and_split (by omega) (by omega), F_s2 c hc (N % 4) (by omega)]
  unfold F2
  omega
theorem F_st3 {d N K : Nat} (hd : d ≤ 68) (hN : N % 16 ≤ 4) : ((d + 256 * N) + (d + 256 * N) / 16) &&& (0xf + 256 * K) = F3 d + 256 * ((N + N / 16) &&& K) := by
  have e : (d + 256 * N) + (d + 256 * N) / 16 = (d + d / 16 + 16 * (N % 16)) + 256 * (N + N / 16) := by omega
  have e15 : (d + d / 16 + 16 * (N % 16)) &&& 0xf = F3 d := by
    rw [show (0xf : Nat) = 2 ^ 4 - 1 from rfl, Nat.and_two_pow_sub_one_eq_mod]
    unfold F3
    omega
  rw [e, and_split (by omega) (by omega), e15]
/-- the whole -/
def swN (n : Nat) : Nat :=
  let n1 := n - ((n / 2) &&& 0x55555555)
  let n2 := (n1 &&& 0x33333333) + ((n1 / 4) &&& 0x33333333)
  let n3 := (n2 + n2 / 16) &&& 0x0f0f0f0f
  let n4 := n3 + n3 / 256
  let n5 := n4 + n4 / 65536
  n5 % 64
theorem swN_eq {b0 b1 b2 b3 : Nat} (h0 : b0 < 256) (h1 : b1 < 256) (h2 : b2 < 256) (h3 : b3 < 256) :
    ((b0 + 256 * (b1 + 256 * (b2 + 256 * b3))) / 2) &&& 0x55555555 ≤ b0 + 256 * (b1 + 256 * (b2 + 256 * b3)) ∧ (b0 + 256 * (b1 + 256 * (b2 + 256 * b3))) - (((b0 + 256 * (b1 + 256 * (b2 + 256 * b3))) / 2) &&& 0x55555555) = F1 b0 + 256 * (F1 b1 + 256 * (F1 b2 + 256 * F1 b3)) := by
  have m : (0x55555555 : Nat) = 0x55 + 256 * (0x55 + 256 * (0x55 + 256 * (0x55 + 256 * 0))) := rfl
  have z : b3 = b3 + 256 * 0 := by omega
  have s3 := F_st1 (N := 0) (K := 0) h3 (by simp)
  rw [Nat.mul_zero, Nat.add_zero, Nat.add_zero] at s3
  have k3 : (b3 / 2) &&& 0x55 ≤ b3 := (F1_ok b3 h3).1
  have k2 : ((b2 + 256 * b3) / 2) &&& (0x55 + 256 * 0x55) ≤ b2 + 256 * b3 := by
    rw [(F_st1 h2 k3).1]; have := (F1_ok b2 h2).1; omega
  have k1 : ((b1 + 256 * (b2 + 256 * b3)) / 2) &&& (0x55 + 256 * (0x55 + 256 * 0x55)) ≤ b1 + 256 * (b2 + 256 * b3) := by
    rw [(F_st1 h1 k2).1]; have := (F1_ok b1 h1).1; omega
  have m' : (0x55555555 : Nat) = 0x55 + 256 * (0x55 + 256 * (0x55 + 256 * 0x55)) := rfl
  rw [m', (F_st1 h0 k1).2]
  constructor
  · rw [(F_st1 h0 k1).1]; have := (F1_ok b0 h0).1; omega
  · rw [(F_st1 h1 k2).2, (F_st1 h2 k3).2]
    rfl
theorem swN_pop {b0 b1 b2 b3 : Nat} (h0 : b0 < 256) (h1 : b1 < 256) (h2 : b2 < 256) (h3 : b3 < 256) : swN (b0 + 256 * (b1 + 256 * (b2 + 256 * b3))) = cn (fun i => b0.testBit i) 0 8 + cn (fun i => b1.testBit i) 0 8 + cn (fun i => b2.testBit i) 0 8 + cn (fun i => b3.testBit i) 0 8 := by
  obtain ⟨a0, a1, a2, a3, a4, a5⟩ := F1_ok b0 h0
  obtain ⟨b0', b1', b2', b3', b4', b5'⟩ := F1_ok b1 h1
  obtain ⟨c0', c1', c2', c3', c4', c5'⟩ := F1_ok b2 h2
  obtain ⟨d0', d1', d2', d3', d4', d5'⟩ := F1_ok b3 h3
  unfold swN
  dsimp only
  rw [(swN_eq h0 h1 h2 h3).2]
  have m33 : (0x33333333 : Nat) = 0x33 + 256 * (0x33 + 256 * (0x33 + 256 * 0x33)) := rfl
  have m0f : (0x0f0f0f0f : Nat) = 0xf + 256 * (0xf + 256 * (0xf + 256 * 0xf)) := rfl
  rw [m33, F_st2 a1, F_st2 b1', F_st2 c1', m0f]
  have f2 : (F1 b3 &&& 0x33) + (F1 b3 / 4 &&& 0x33) = F2 (F1 b3) := rfl
  rw [f2]
  generalize F2 (F1 b0) = e0 at *
  generalize F2 (F1 b1) = e1 at *
  generalize F2 (F1 b2) = e2 at *
  generalize F2 (F1 b3) = e3 at *
  rw [F_st3 a2 (by omega), F_st3 b2' (by omega), F_st3 c2' (by omega)]
  have f3 : (e3 + e3 / 16) &&& 0xf = F3 e3 := by
    rw [show (0xf : Nat) = 2 ^ 4 - 1 from rfl, Nat.and_two_pow_sub_one_eq_mod]; rfl
  rw [f3, ← a5, ← b5', ← c5', ← d5']
  have l : ∀ e, e % 16 ≤ 4 → e / 16 ≤ 4 → F3 e ≤ 8 := fun e x1 x2 => by
    unfold F3
    rw [show e + e / 16 = (e % 16 + e / 16) + 16 * (e / 16) by omega, Nat.add_mul_mod_self_left, Nat.mod_eq_of_lt (by omega)]
    omega
  have y0 := l e0 a3 a4
  have y1 := l e1 b3' b4'
  have y2 := l e2 c3' c4'
  have y3 := l e3 d3' d4'
  generalize F3 e0 = g0 at *
  generalize F3 e1 = g1 at *
  generalize F3 e2 = g2 at *
  generalize F3 e3 = g3 at *
  clear a0 a1 a2 a3 a4 a5 b0' b1' b2' b3' b4' b5' c0' c1' c2' c3' c4' c5' d0' d1' d2' d3' d4' d5' h0 h1 h2 h3 l f2 f3
  have q1 : (g0 + 256 * (g1 + 256 * (g2 + 256 * g3))) / 256 = g1 + 256 * (g2 + 256 * g3) := by omega
  rw [q1]
  have q2 : g0 + 256 * (g1 + 256 * (g2 + 256 * g3)) + (g1 + 256 * (g2 + 256 * g3)) = (g0 + g1) + 256 * ((g1 + g2) + 256 * ((g2 + g3) + 256 * g3)) := by omega
  rw [q2]
  have q3 : ((g0 + g1) + 256 * ((g1 + g2) + 256 * ((g2 + g3) + 256 * g3))) / 65536 = (g2 + g3) + 256 * g3 := by omega
  rw [q3]
  have q4 : (g0 + g1) + 256 * ((g1 + g2) + 256 * ((g2 + g3) + 256 * g3)) + ((g2 + g3) + 256 * g3) = (g0 + g1 + g2 + g3) + 64 * (4 * ((g1 + g2) + 256 * ((g2 + g3) + 256 * g3)) + 4 * g3) := by omega
  rw [q4, Nat.add_mul_mod_self_left, Nat.mod_eq_of_lt (by omega)]
theorem byte_cn {n j : Nat} : cn (fun i => ((n / 2 ^ j) % 256).testBit i) 0 8 = cn (fun i => n.testBit i) j 8 := by
  rw [show j = 0 + j by omega, cn_shift]
  refine cn_congr 8 0 (fun i _ hi => ?_)
  rw [show 0 + j = j by omega, show (256 : Nat) = 2 ^ 8 from rfl, Nat.testBit_mod_two_pow, Nat.testBit_div_two_pow, decide_eq_true (show i < 8 by omega), Bool.true_and]
theorem swN_cn {n : Nat} (h : n < 2 ^ 32) : swN n = cn (fun i => n.testBit i) 0 32 := by
  have e : n = n / 2 ^ 0 % 256 + 256 * (n / 2 ^ 8 % 256 + 256 * (n / 2 ^ 16 % 256 + 256 * (n / 2 ^ 24 % 256))) := by omega
  have := swN_pop (show n / 2 ^ 0 % 256 < 256 by omega) (show n / 2 ^ 8 % 256 < 256 by omega) (show n / 2 ^ 16 % 256 < 256 by omega) (show n / 2 ^ 24 % 256 < 256 by omega)
  rw [← e, byte_cn, byte_cn, byte_cn, byte_cn] at this
  rw [this, show 32 = 8 + (8 + (8 + 8)) from rfl, cn_app, cn_app, cn_app]
  show _ = cn (fun i => n.testBit i) 0 8 + (cn (fun i => n.testBit i) 8 8 + (cn (fun i => n.testBit i) 16 8 + cn (fun i => n.testBit i) 24 8))
  omega
/-- the class's words -/
def swB (a : BitVec 32) : BitVec 32 :=
  let n1 := a - ((a >>> 1) &&& 0x55555555#32)
  let n2 := (n1 &&& 0x33333333#32) + ((n1 >>> 2) &&& 0x33333333#32)
  let n3 := (n2 + n2 >>> 4) &&& 0x0f0f0f0f#32
  let n4 := n3 + n3 >>> 8
  let n5 := n4 + n4 >>> 16
  n5 &&& 63#32
theorem fJ_swB (x : Int32) : fJ_bits x = some ⟨⟨swB x.toBitVec⟩⟩ := rfl
theorem swB_N (a : BitVec 32) : (swB a).toNat = swN a.toNat := by
  have hn := a.isLt
  have hle : (a.toNat / 2) &&& 0x55555555 ≤ a.toNat := by
    have e : a.toNat = a.toNat / 2 ^ 0 % 256 + 256 * (a.toNat / 2 ^ 8 % 256 + 256 * (a.toNat / 2 ^ 16 % 256 + 256 * (a.toNat / 2 ^ 24 % 256))) := by omega
    have := (swN_eq (show a.toNat / 2 ^ 0 % 256 < 256 by omega) (show a.toNat / 2 ^ 8 % 256 < 256 by omega) (show a.toNat / 2 ^ 16 % 256 < 256 by omega) (show a.toNat / 2 ^ 24 % 256 < 256 by omega)).1
    rw [← e] at this
    exact this
  have t1 : (a - ((a >>> 1) &&& 0x55555555#32)).toNat = a.toNat - ((a.toNat / 2) &&& 0x55555555) := by
    rw [BitVec.toNat_sub, BitVec.toNat_and, BitVec.toNat_ushiftRight, Nat.shiftRight_eq_div_pow]
    show (2 ^ 32 - ((a.toNat / 2) &&& 0x55555555) + a.toNat) % 2 ^ 32 = _
    omega
  have t2 : ∀ b : BitVec 32, ((b &&& 0x33333333#32) + ((b >>> 2) &&& 0x33333333#32)).toNat = (b.toNat &&& 0x33333333) + ((b.toNat / 4) &&& 0x33333333) := fun b => by
    rw [BitVec.toNat_add, BitVec.toNat_and, BitVec.toNat_and, BitVec.toNat_ushiftRight, Nat.shiftRight_eq_div_pow]
    show ((b.toNat &&& 0x33333333) + ((b.toNat / 4) &&& 0x33333333)) % 2 ^ 32 = _
    have h1 : b.toNat &&& 0x33333333 ≤ 0x33333333 := Nat.and_le_right
    have h2 : (b.toNat / 4) &&& 0x33333333 ≤ 0x33333333 := Nat.and_le_right
    exact Nat.mod_eq_of_lt (by omega)
  have t3 : ∀ b : BitVec 32, b.toNat ≤ 0x66666666 → ((b + b >>> 4) &&& 0x0f0f0f0f#32).toNat = (b.toNat + b.toNat / 16) &&& 0x0f0f0f0f := fun b hb => by
    rw [BitVec.toNat_and, BitVec.toNat_add, BitVec.toNat_ushiftRight, Nat.shiftRight_eq_div_pow]
    show ((b.toNat + b.toNat / 16) % 2 ^ 32) &&& 0x0f0f0f0f = _
    rw [Nat.mod_eq_of_lt (by omega)]
  have t4 : ∀ b : BitVec 32, b.toNat ≤ 0x0f0f0f0f → ((b + b >>> 8) + (b + b >>> 8) >>> 16).toNat = (b.toNat + b.toNat / 256) + (b.toNat + b.toNat / 256) / 65536 := fun b hb => by
    have e1 : (b + b >>> 8).toNat = b.toNat + b.toNat / 256 := by
      rw [BitVec.toNat_add, BitVec.toNat_ushiftRight, Nat.shiftRight_eq_div_pow]
      show (b.toNat + b.toNat / 256) % 2 ^ 32 = _
      exact Nat.mod_eq_of_lt (by omega)
    rw [BitVec.toNat_add, BitVec.toNat_ushiftRight, Nat.shiftRight_eq_div_pow, e1]
    show (b.toNat + b.toNat / 256 + (b.toNat + b.toNat / 256) / 65536) % 2 ^ 32 = _
    exact Nat.mod_eq_of_lt (by omega)
  unfold swB swN
  dsimp only
  have b2 : (a.toNat - ((a.toNat / 2) &&& 0x55555555) &&& 0x33333333) + ((a.toNat - ((a.toNat / 2) &&& 0x55555555)) / 4 &&& 0x33333333) ≤ 0x66666666 := by
    have h1 : a.toNat - ((a.toNat / 2) &&& 0x55555555) &&& 0x33333333 ≤ 0x33333333 := Nat.and_le_right
    have h2 : (a.toNat - ((a.toNat / 2) &&& 0x55555555)) / 4 &&& 0x33333333 ≤ 0x33333333 := Nat.and_le_right
    omega
  rw [BitVec.toNat_and, show (63#32 : BitVec 32).toNat = 2 ^ 6 - 1 from rfl, Nat.and_two_pow_sub_one_eq_mod, t4 _ (by rw [t3 _ (by rw [t2, t1]; exact b2)]; exact Nat.and_le_right), t3 _ (by rw [t2, t1]; exact b2), t2, t1]
theorem sJ_bits (x : Int32) : fJ_bits x = some (nI (cn (bt x) 0 32)) := by
  rw [fJ_swB, Option.some.injEq]
  have e : (swB x.toBitVec).toNat = cn (bt x) 0 32 := by
    rw [swB_N, swN_cn x.toBitVec.isLt]
    exact cn_congr 32 0 (fun j _ _ => rfl)
  have hle := cn_le (bt x) 32 0
  apply Int32.toBitVec_inj.mp
  show swB x.toBitVec = (nI (cn (bt x) 0 32)).toBitVec
  apply BitVec.eq_of_toNat_eq
  rw [e]
  generalize cn (bt x) 0 32 = m at hle ⊢
  exact (by decide +kernel : ∀ m, m ≤ 32 → m = (nI m).toBitVec.toNat) m hle
