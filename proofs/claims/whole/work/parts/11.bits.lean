/-! BITS: a set of keys in four longs; the number of a long's bits -/
theorem pb_bit {w : Int64} {s : UInt64} {j : Nat} (hj : j < 64) (hs : s.toNat = j) : ((w.toUInt64 >>> s).toInt64 &&& 1) = 0 ↔ w.toBitVec.getLsbD j = false := by
  have e : (w.toUInt64 >>> s).toInt64.toBitVec = w.toBitVec >>> j := by
    apply BitVec.eq_of_toNat_eq
    show (w.toUInt64 >>> s).toNat = _
    rw [UInt64.toNat_shiftRight, hs, Nat.mod_eq_of_lt hj, BitVec.toNat_ushiftRight]
    rfl
  rw [← Int64.toBitVec_inj, Int64.toBitVec_and, e]
  show w.toBitVec >>> j &&& 1#64 = 0#64 ↔ _
  constructor
  · intro h
    have t := congrArg (fun x => x.getLsbD 0) h
    simpa using t
  · intro h
    apply BitVec.eq_of_getLsbD_eq
    intro i hi
    rw [BitVec.getLsbD_and, BitVec.getLsbD_ushiftRight]
    cases i with
    | zero => simp [h]
    | succ i => simp
theorem pb_m : ∀ j, j < 64 → ((1 : Int64) <<< ((nI j).toInt64 &&& 63)).toBitVec = BitVec.twoPow 64 j := by decide +kernel
theorem pb_u : ∀ k, k < 64 → ((nI k).toInt64.toUInt64 &&& Int64.toUInt64 63).toNat = k := by decide +kernel
def pb_b (f : Nat → Int64) (j : Nat) : Bool := (f (j / 64)).toBitVec.getLsbD (j % 64)
theorem pb_has (f : Nat → Int64) (k : Nat) : ((((f (k / 64)).toUInt64 >>> ((nI (k % 64)).toInt64.toUInt64 &&& Int64.toUInt64 63)).toInt64 &&& 1) = 0) ↔ pb_b f k = false :=
  pb_bit (Nat.mod_lt _ (by decide)) (pb_u _ (Nat.mod_lt _ (by decide)))
theorem pb_add (f : Nat → Int64) (k j : Nat) : pb_b (vp_updL f (k / 64) (f (k / 64) ||| ((1 : Int64) <<< ((nI (k % 64)).toInt64 &&& 63)))) j = (decide (j = k) || pb_b f j) := by
  have hk := Nat.mod_lt k (show 0 < 64 by decide)
  unfold pb_b vp_updL
  by_cases h : j / 64 = k / 64
  · rw [if_pos h, Int64.toBitVec_or, pb_m _ hk, BitVec.getLsbD_or, BitVec.getLsbD_twoPow, h]
    by_cases h2 : j = k
    · subst h2; simp [hk]
    · have : ¬ (k % 64 = j % 64) := fun z => h2 (by omega)
      simp [this, h2]
  · rw [if_neg h]
    have : j ≠ k := fun z => h (by rw [z])
    simp [this]
theorem pb_del (f : Nat → Int64) (k j : Nat) : pb_b (vp_updL f (k / 64) (f (k / 64) &&& (((1 : Int64) <<< ((nI (k % 64)).toInt64 &&& 63)) ^^^ (-1)))) j = (!decide (j = k) && pb_b f j) := by
  have hk := Nat.mod_lt k (show 0 < 64 by decide)
  have hj := Nat.mod_lt j (show 0 < 64 by decide)
  have ha : (-1 : Int64).toBitVec = BitVec.allOnes 64 := by decide
  unfold pb_b vp_updL
  by_cases h : j / 64 = k / 64
  · rw [if_pos h, Int64.toBitVec_and, Int64.toBitVec_xor, pb_m _ hk, ha, BitVec.getLsbD_and, BitVec.getLsbD_xor, BitVec.getLsbD_twoPow, BitVec.getLsbD_allOnes, h]
    by_cases h2 : j = k
    · subst h2; simp [hk]
    · have : ¬ (k % 64 = j % 64) := fun z => h2 (by omega)
      simp [this, h2, hj]
  · rw [if_neg h]
    have : j ≠ k := fun z => h (by rw [z])
    simp [this]
theorem pb_zero (j : Nat) : pb_b (fun _ => 0) j = false := by simp [pb_b]
/-- how many of the first n are true -/
def pb_cnt (f : Nat → Bool) : Nat → Nat
  | 0 => 0
  | n + 1 => pb_cnt f n + (if f n then 1 else 0)
theorem pb_cnt_le (f : Nat → Bool) (n : Nat) : pb_cnt f n ≤ n := by
  induction n with
  | zero => exact Nat.le_refl 0
  | succ n ih => rw [pb_cnt]; split <;> omega
theorem pb_cnt_congr {f g : Nat → Bool} {n : Nat} (h : ∀ i, i < n → f i = g i) : pb_cnt f n = pb_cnt g n := by
  induction n with
  | zero => rfl
  | succ n ih => rw [pb_cnt, pb_cnt, ih (fun i hi => h i (by omega)), h n (by omega)]
theorem pb_cnt_add (f : Nat → Bool) (a n : Nat) : pb_cnt f (a + n) = pb_cnt f a + pb_cnt (fun i => f (a + i)) n := by
  induction n with
  | zero => rfl
  | succ n ih => rw [← Nat.add_assoc, pb_cnt, pb_cnt, ih]; omega
/-- one more of them is true -/
theorem pb_cnt_up {f : Nat → Bool} {k n : Nat} (hk : k < n) (h : f k = false) : pb_cnt (fun i => decide (i = k) || f i) n = pb_cnt f n + 1 := by
  induction n with
  | zero => omega
  | succ n ih =>
    rw [pb_cnt, pb_cnt]
    by_cases e : n = k
    · subst e
      have : pb_cnt (fun i => decide (i = n) || f i) n = pb_cnt f n := pb_cnt_congr (fun i hi => by simp [Nat.ne_of_lt hi])
      rw [this]
      simp [h]
    · rw [ih (by omega)]
      simp [e]
      omega
/-! the sum of a number's first k bits -/
def pb_pc : Nat → Nat → Nat
  | 0, _ => 0
  | k + 1, n => n % 2 + pb_pc k (n / 2)
theorem pb_pc_cnt (k n : Nat) : pb_pc k n = pb_cnt (fun i => n.testBit i) k := by
  induction k generalizing n with
  | zero => rfl
  | succ k ih =>
    rw [pb_pc, ih, Nat.add_comm k 1, pb_cnt_add]
    have h1 : pb_cnt (fun i => n.testBit i) 1 = n % 2 := by
      rw [pb_cnt, pb_cnt, Nat.testBit_zero]
      rcases Nat.mod_two_eq_zero_or_one n with h | h <;> simp [h]
    rw [h1]
    congr 1
    exact pb_cnt_congr (fun i _ => by rw [Nat.add_comm 1 i, Nat.testBit_add_one])
theorem pb_pc8 (k n : Nat) : pb_pc (8 + k) n = pb_pc 8 (n % 256) + pb_pc k (n / 256) := by
  rw [Nat.add_comm 8 k]
  simp only [pb_pc]
  have e : n / 2 / 2 / 2 / 2 / 2 / 2 / 2 / 2 = n / 256 := by omega
  rw [e]
  omega
def pb_m55 : Nat → Nat | 0 => 0 | k + 1 => 256 * pb_m55 k + 85
def pb_m33 : Nat → Nat | 0 => 0 | k + 1 => 256 * pb_m33 k + 51
def pb_m0f : Nat → Nat | 0 => 0 | k + 1 => 256 * pb_m0f k + 15
theorem pb_and (x y : Nat) : x &&& y = 256 * ((x / 256) &&& (y / 256)) + ((x % 256) &&& (y % 256)) := by
  have h1 : (x &&& y) / 2 ^ 8 = x / 2 ^ 8 &&& y / 2 ^ 8 := Nat.and_div_two_pow
  have h2 : (x &&& y) % 2 ^ 8 = (x % 2 ^ 8) &&& (y % 2 ^ 8) := Nat.and_mod_two_pow
  have h3 := Nat.div_add_mod (x &&& y) (2 ^ 8)
  rw [h1, h2] at h3
  exact h3.symm
theorem pb_and2 (x q d : Nat) (hd : d < 256) : x &&& (256 * q + d) = 256 * ((x / 256) &&& q) + ((x % 256) &&& d) := by
  rw [pb_and, show (256 * q + d) / 256 = q by omega, show (256 * q + d) % 256 = d by omega]
def pb_t1 (r : Nat) : Nat := r - ((r / 2) &&& 85)
def pb_t2 (r : Nat) : Nat := (r &&& 51) + ((r / 4) &&& 51)
def pb_t3 (r : Nat) : Nat := (r + r / 16) &&& 15
def pb_f1 (m x : Nat) : Nat := x - ((x / 2) &&& pb_m55 m)
def pb_f2 (m x : Nat) : Nat := (x &&& pb_m33 m) + ((x / 4) &&& pb_m33 m)
def pb_f3 (m x : Nat) : Nat := (x + x / 16) &&& pb_m0f m
theorem pb_d1 : ∀ u, u < 2 → ∀ v, v < 128 → (128 * u + v) &&& 85 = v &&& 85 := by decide +kernel
theorem pb_d2 : ∀ u, u < 4 → ∀ v, v < 64 → (64 * u + v) &&& 51 = v &&& 51 := by decide +kernel
theorem pb_d3 : ∀ v, v < 256 → v &&& 15 = v % 16 := by decide +kernel
theorem pb_d4 : ∀ r, r < 256 → pb_t3 (pb_t2 (pb_t1 r)) = pb_pc 8 r ∧ pb_t1 r < 256 ∧ pb_t2 (pb_t1 r) ≤ 68 ∧ pb_t2 (pb_t1 r) % 16 ≤ 4 ∧ pb_pc 8 r ≤ 8 := by decide +kernel
theorem pb_f1_step (m q r : Nat) (hr : r < 256) : pb_f1 (m + 1) (256 * q + r) = 256 * pb_f1 m q + pb_t1 r := by
  have e1 : ((256 * q + r) / 2) &&& pb_m55 (m + 1) = 256 * ((q / 2) &&& pb_m55 m) + ((r / 2) &&& 85) := by
    rw [pb_m55, pb_and2 _ _ _ (by decide), show (256 * q + r) / 2 / 256 = q / 2 by omega, show (256 * q + r) / 2 % 256 = 128 * (q % 2) + r / 2 by omega, pb_d1 _ (Nat.mod_lt _ (by decide)) _ (by omega)]
  have h1 : (q / 2) &&& pb_m55 m ≤ q / 2 := Nat.and_le_left
  have h2 : (r / 2) &&& 85 ≤ r / 2 := Nat.and_le_left
  unfold pb_f1 pb_t1
  rw [e1]
  omega
theorem pb_f2_step (m q r : Nat) (hr : r < 256) : pb_f2 (m + 1) (256 * q + r) = 256 * pb_f2 m q + pb_t2 r := by
  have e1 : (256 * q + r) &&& pb_m33 (m + 1) = 256 * (q &&& pb_m33 m) + (r &&& 51) := by
    rw [pb_m33, pb_and2 _ _ _ (by decide), show (256 * q + r) / 256 = q by omega, show (256 * q + r) % 256 = r by omega]
  have e2 : ((256 * q + r) / 4) &&& pb_m33 (m + 1) = 256 * ((q / 4) &&& pb_m33 m) + ((r / 4) &&& 51) := by
    rw [pb_m33, pb_and2 _ _ _ (by decide), show (256 * q + r) / 4 / 256 = q / 4 by omega, show (256 * q + r) / 4 % 256 = 64 * (q % 4) + r / 4 by omega, pb_d2 _ (Nat.mod_lt _ (by decide)) _ (by omega)]
  unfold pb_f2 pb_t2
  rw [e1, e2]
  omega
theorem pb_f3_step (m q r : Nat) (hr : r ≤ 68) (hq : q % 16 ≤ 4) : pb_f3 (m + 1) (256 * q + r) = 256 * pb_f3 m q + pb_t3 r := by
  unfold pb_f3 pb_t3
  rw [pb_m0f, pb_and2 _ _ _ (by decide), show (256 * q + r + (256 * q + r) / 16) / 256 = q + q / 16 by omega, pb_d3 _ (Nat.mod_lt _ (by decide)), pb_d3 _ (by omega)]
  congr 1
  omega
/-- the three steps, byte by byte -/
def pb_S : Nat → Nat → Nat
  | 0, _ => 0
  | m + 1, x => 256 * pb_S m (x / 256) + pb_pc 8 (x % 256)
theorem pb_S_ok (m x : Nat) (hx : x < 256 ^ m) : pb_f3 m (pb_f2 m (pb_f1 m x)) = pb_S m x ∧ pb_f2 m (pb_f1 m x) % 16 ≤ 4 := by
  induction m generalizing x with
  | zero =>
    have : x = 0 := by simpa using hx
    subst this
    decide
  | succ m ih =>
    have hq : x / 256 < 256 ^ m := by rw [Nat.pow_succ] at hx; omega
    have hr : x % 256 < 256 := Nat.mod_lt _ (by decide)
    obtain ⟨i1, i2⟩ := ih (x / 256) hq
    obtain ⟨d1, d2, d3, d4, d5⟩ := pb_d4 (x % 256) hr
    have e : x = 256 * (x / 256) + x % 256 := by omega
    have k1 : pb_f1 (m + 1) x = 256 * pb_f1 m (x / 256) + pb_t1 (x % 256) := by
      have := pb_f1_step m (x / 256) (x % 256) hr
      rw [← e] at this
      exact this
    rw [k1, pb_f2_step _ _ _ d2]
    refine ⟨?_, by omega⟩
    rw [pb_f3_step _ _ _ d3 i2, i1, d1, pb_S]
theorem pb_dv {q r d : Nat} (hr : r < d) : (d * q + r) / d = q := by
  rw [Nat.mul_add_div (by omega), Nat.div_eq_of_lt hr, Nat.add_zero]
theorem pb_bd {q a n : Nat} (hq : q ≤ n) (ha : a ≤ 8) : 256 * q + a ≤ 256 * n + 8 := Nat.add_le_add (Nat.mul_le_mul_left _ hq) ha
theorem pb_q1 {a0 a1 a2 q1 q2 q3 : Nat} (h1 : q1 = 256 * q2 + a1) (h2 : q2 = 256 * q3 + a2) : 256 * q1 + a0 + q1 = 65536 * (q2 + q3) + (256 * (a1 + a2) + (a0 + a1)) := by
  subst h1; subst h2; omega
theorem pb_q2 {a3 a4 a5 q2 q3 q4 q5 a2 : Nat} (h2 : q2 = 256 * q3 + a2) (h3 : q3 = 256 * q4 + a3) (h4 : q4 = 256 * q5 + a4) : q2 + q3 = 65536 * (q4 + q5) + (256 * (a3 + a4) + (a2 + a3)) := by
  subst h2; subst h3; subst h4; omega
theorem pb_q3 {s t a b c d e f g : Nat} (hs : s = 65536 * t + (256 * a + b)) : 65536 * (65536 * s + (256 * c + d)) + (256 * e + f) + (65536 * s + (256 * c + d)) = 4294967296 * (s + t) + (65536 * (256 * (c + a) + (d + b)) + (256 * (e + c) + (f + d))) := by
  subst hs; omega
theorem pb_fold {a0 a1 a2 a3 a4 a5 a6 a7 : Nat} (p0 : a0 ≤ 8) (p1 : a1 ≤ 8) (p2 : a2 ≤ 8) (p3 : a3 ≤ 8) (p4 : a4 ≤ 8) (p5 : a5 ≤ 8) (p6 : a6 ≤ 8) (p7 : a7 ≤ 8) :
    let y := 256 * (256 * (256 * (256 * (256 * (256 * (256 * (256 * 0 + a7) + a6) + a5) + a4) + a3) + a2) + a1) + a0
    y < 18446744073709551616 ∧ y + y / 256 < 18446744073709551616 ∧ y + y / 256 + (y + y / 256) / 65536 < 18446744073709551616 ∧ y + y / 256 + (y + y / 256) / 65536 + (y + y / 256 + (y + y / 256) / 65536) / 4294967296 < 18446744073709551616 ∧
    (y + y / 256 + (y + y / 256) / 65536 + (y + y / 256 + (y + y / 256) / 65536) / 4294967296) % 128 = a0 + (a1 + (a2 + (a3 + (a4 + (a5 + (a6 + a7)))))) := by
  intro y
  obtain ⟨q7, h7⟩ : ∃ q, q = 256 * 0 + a7 := ⟨_, rfl⟩
  obtain ⟨q6, h6⟩ : ∃ q, q = 256 * q7 + a6 := ⟨_, rfl⟩
  obtain ⟨q5, h5⟩ : ∃ q, q = 256 * q6 + a5 := ⟨_, rfl⟩
  obtain ⟨q4, h4⟩ : ∃ q, q = 256 * q5 + a4 := ⟨_, rfl⟩
  obtain ⟨q3, h3⟩ : ∃ q, q = 256 * q4 + a3 := ⟨_, rfl⟩
  obtain ⟨q2, h2⟩ : ∃ q, q = 256 * q3 + a2 := ⟨_, rfl⟩
  obtain ⟨q1, h1⟩ : ∃ q, q = 256 * q2 + a1 := ⟨_, rfl⟩
  have hy : y = 256 * q1 + a0 := by rw [h1, h2, h3, h4, h5, h6, h7]
  clear_value y
  have b7 : q7 ≤ 8 := by rw [h7]; exact pb_bd (n := 0) (Nat.le_refl 0) p7
  have b6 : q6 ≤ 2056 := by rw [h6]; exact pb_bd b7 p6
  have b5 : q5 ≤ 526344 := by rw [h5]; exact pb_bd b6 p5
  have b4 : q4 ≤ 134744072 := by rw [h4]; exact pb_bd b5 p4
  have b3 : q3 ≤ 34494482440 := by rw [h3]; exact pb_bd b4 p3
  have b2 : q2 ≤ 8830587504648 := by rw [h2]; exact pb_bd b3 p2
  have b1 : q1 ≤ 2260630401189896 := by rw [h1]; exact pb_bd b2 p1
  have b0 : y ≤ 578721382704613384 := by rw [hy]; exact pb_bd b1 p0
  have e1 : y / 256 = q1 := by rw [hy]; exact pb_dv (by clear h1 h2 h3 h4 h5 h6 h7 hy; omega)
  rw [e1]
  have hu2 : y + q1 = 65536 * (q2 + q3) + (256 * (a1 + a2) + (a0 + a1)) := by rw [hy]; exact pb_q1 h1 h2
  have e4 : q2 + q3 = 65536 * (q4 + q5) + (256 * (a3 + a4) + (a2 + a3)) := pb_q2 (a5 := 0) h2 h3 h4
  have e5 : q4 + q5 = 65536 * (q6 + q7) + (256 * (a5 + a6) + (a4 + a5)) := pb_q2 (a5 := 0) h4 h5 h6
  obtain ⟨u, hu⟩ : ∃ u, u = y + q1 := ⟨_, rfl⟩
  have bu : u ≤ 580982013105803280 := by rw [hu]; exact Nat.add_le_add b0 b1
  rw [← hu] at hu2 ⊢
  have e2 : u / 65536 = q2 + q3 := by rw [hu2]; exact pb_dv (by clear h1 h2 h3 h4 h5 h6 h7 hy hu hu2 e4 e5 b0 b1 b2 b3 b4 b5 b6 b7 bu; omega)
  rw [e2]
  have hv2 : u + (q2 + q3) = 4294967296 * ((q4 + q5) + (q6 + q7)) + (65536 * (256 * ((a3 + a4) + (a5 + a6)) + ((a2 + a3) + (a4 + a5))) + (256 * ((a1 + a2) + (a3 + a4)) + ((a0 + a1) + (a2 + a3)))) := by
    rw [hu2, e4]
    exact pb_q3 (g := 0) e5
  obtain ⟨v, hv⟩ : ∃ v, v = u + (q2 + q3) := ⟨_, rfl⟩
  have bv : v ≤ 580990878187790368 := by rw [hv]; exact Nat.le_trans (Nat.add_le_add bu (Nat.add_le_add b2 b3)) (by decide)
  rw [← hv] at hv2 ⊢
  have e3 : v / 4294967296 = (q4 + q5) + (q6 + q7) := by rw [hv2]; exact pb_dv (by clear h1 h2 h3 h4 h5 h6 h7 hy hu hu2 hv hv2 e1 e2 e4 e5 b0 b1 b2 b3 b4 b5 b6 b7 bu bv; omega)
  rw [e3]
  have bt : (q4 + q5) + (q6 + q7) ≤ 135272480 := Nat.le_trans (Nat.add_le_add (Nat.add_le_add b4 b5) (Nat.add_le_add b6 b7)) (by decide)
  refine ⟨Nat.lt_of_le_of_lt b0 (by decide), Nat.lt_of_le_of_lt bu (by decide), Nat.lt_of_le_of_lt bv (by decide), Nat.lt_of_le_of_lt (Nat.add_le_add bv bt) (by decide), ?_⟩
  have hm : (v + ((q4 + q5) + (q6 + q7))) % 256 = (a0 + (a1 + (a2 + (a3 + (a4 + (a5 + (a6 + a7))))))) % 256 := by
    have m7 : q7 % 256 = a7 % 256 := by rw [h7]; simp
    have m6 : q6 % 256 = a6 % 256 := by rw [h6, Nat.mul_add_mod]
    have m5 : q5 % 256 = a5 % 256 := by rw [h5, Nat.mul_add_mod]
    have m4 : q4 % 256 = a4 % 256 := by rw [h4, Nat.mul_add_mod]
    have mv : v % 256 = ((a0 + a1) + (a2 + a3)) % 256 := by
      rw [hv2]
      clear hv2 h1 h2 h3 h4 h5 h6 h7 hy hu hu2 hv e1 e2 e3 e4 e5 b0 b1 b2 b3 b4 b5 b6 b7 bu bv bt m4 m5 m6 m7
      omega
    clear hv2 h1 h2 h3 h4 h5 h6 h7 hy hu hu2 hv e1 e2 e3 e4 e5 b0 b1 b2 b3 b4 b5 b6 b7 bu bv bt
    omega
  clear hv2 h1 h2 h3 h4 h5 h6 h7 hy hu hu2 hv e1 e2 e3 e4 e5 b0 b1 b2 b3 b4 b5 b6 b7 bu bv bt
  omega
theorem pb_sum (n : Nat) (hn : n < 18446744073709551616) : ∃ y, pb_f3 8 (pb_f2 8 (pb_f1 8 n)) = y ∧ y < 18446744073709551616 ∧ (y + y / 256) < 18446744073709551616 ∧ (y + y / 256 + (y + y / 256) / 65536) < 18446744073709551616 ∧
    (y + y / 256 + (y + y / 256) / 65536 + (y + y / 256 + (y + y / 256) / 65536) / 4294967296) < 18446744073709551616 ∧
    (y + y / 256 + (y + y / 256) / 65536 + (y + y / 256 + (y + y / 256) / 65536) / 4294967296) % 128 = pb_pc 64 n := by
  obtain ⟨h1, -⟩ := pb_S_ok 8 n hn
  refine ⟨_, rfl, ?_⟩
  rw [h1]
  have hp : ∀ r, r < 256 → pb_pc 8 r ≤ 8 := fun r hr => (pb_d4 r hr).2.2.2.2
  have g : ∀ z : Nat, z % 256 < 256 := fun z => Nat.mod_lt _ (by decide)
  have p0 := hp _ (g n)
  have p1 := hp _ (g (n / 256))
  have p2 := hp _ (g (n / 256 / 256))
  have p3 := hp _ (g (n / 256 / 256 / 256))
  have p4 := hp _ (g (n / 256 / 256 / 256 / 256))
  have p5 := hp _ (g (n / 256 / 256 / 256 / 256 / 256))
  have p6 := hp _ (g (n / 256 / 256 / 256 / 256 / 256 / 256))
  have p7 := hp _ (g (n / 256 / 256 / 256 / 256 / 256 / 256 / 256))
  have e : pb_pc 64 n = pb_pc 8 (n % 256) + (pb_pc 8 (n / 256 % 256) + (pb_pc 8 (n / 256 / 256 % 256) + (pb_pc 8 (n / 256 / 256 / 256 % 256) + (pb_pc 8 (n / 256 / 256 / 256 / 256 % 256) + (pb_pc 8 (n / 256 / 256 / 256 / 256 / 256 % 256) + (pb_pc 8 (n / 256 / 256 / 256 / 256 / 256 / 256 % 256) + (pb_pc 8 (n / 256 / 256 / 256 / 256 / 256 / 256 / 256 % 256)))))))) := by
    rw [show 64 = 8 + 56 from rfl, pb_pc8, show 56 = 8 + 48 from rfl, pb_pc8, show 48 = 8 + 40 from rfl, pb_pc8, show 40 = 8 + 32 from rfl, pb_pc8, show 32 = 8 + 24 from rfl, pb_pc8, show 24 = 8 + 16 from rfl, pb_pc8, show 16 = 8 + 8 from rfl, pb_pc8, show pb_pc 8 (n / 256 / 256 / 256 / 256 / 256 / 256 / 256) = pb_pc (8 + 0) (n / 256 / 256 / 256 / 256 / 256 / 256 / 256) from rfl, pb_pc8]
    rfl
  rw [e]
  simp only [pb_S]
  generalize pb_pc 8 (n % 256) = a0 at *
  generalize pb_pc 8 (n / 256 % 256) = a1 at *
  generalize pb_pc 8 (n / 256 / 256 % 256) = a2 at *
  generalize pb_pc 8 (n / 256 / 256 / 256 % 256) = a3 at *
  generalize pb_pc 8 (n / 256 / 256 / 256 / 256 % 256) = a4 at *
  generalize pb_pc 8 (n / 256 / 256 / 256 / 256 / 256 % 256) = a5 at *
  generalize pb_pc 8 (n / 256 / 256 / 256 / 256 / 256 / 256 % 256) = a6 at *
  generalize pb_pc 8 (n / 256 / 256 / 256 / 256 / 256 / 256 / 256 % 256) = a7 at *
  clear h1 hp g e hn
  exact pb_fold p0 p1 p2 p3 p4 p5 p6 p7
/-! the same over longs -/
def pb_N (x : Int64) : Nat := x.toUInt64.toNat
theorem pb_N_lt (x : Int64) : pb_N x < 18446744073709551616 := x.toUInt64.toNat_lt
theorem pb_N_add (x y : Int64) : pb_N (x + y) = (pb_N x + pb_N y) % 18446744073709551616 := by
  show (x.toUInt64 + y.toUInt64).toNat = _
  exact UInt64.toNat_add _ _
theorem pb_N_sub {x y : Int64} (h : pb_N y ≤ pb_N x) : pb_N (x - y) = pb_N x - pb_N y := by
  show (x.toUInt64 - y.toUInt64).toNat = _
  rw [UInt64.toNat_sub]
  have hx := pb_N_lt x
  have hy := pb_N_lt y
  show (2 ^ 64 - pb_N y + pb_N x) % 2 ^ 64 = _
  omega
theorem pb_N_and (x y : Int64) : pb_N (x &&& y) = pb_N x &&& pb_N y := by
  show (x.toUInt64 &&& y.toUInt64).toNat = _
  exact UInt64.toNat_and _ _
theorem pb_N_shr (x : Int64) {k : Nat} (hk : k < 64) : pb_N (x.toUInt64 >>> ((nI k).toInt64.toUInt64 &&& Int64.toUInt64 63)).toInt64 = pb_N x / 2 ^ k := by
  show (x.toUInt64 >>> _).toNat = _
  rw [UInt64.toNat_shiftRight, pb_u k hk, Nat.mod_eq_of_lt hk, Nat.shiftRight_eq_div_pow]
  rfl
theorem pb_N_bit (x : Int64) (i : Nat) : (pb_N x).testBit i = x.toBitVec.getLsbD i := rfl
