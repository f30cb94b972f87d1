/-! PURE: how many words a set has, counted in two ways -/
def pb_ones : Nat → Int32 → Int32 → Option Int32
  | 0, _, _ => none
  | n + 1, v1, v2 => if v2 = 0 then some v1 else pb_ones n (v1 + 1) (v2 &&& (v2 - 1))
theorem pb_ones_of (σ : js_S) : ∀ n v1 v2, fX8_ones_L4 σ n v1 v2 = pb_ones n v1 v2
  | 0, _, _ => rfl
  | n + 1, v1, v2 => by rw [fX8_ones_L4, pb_ones, pb_ones_of σ n]
def pb_i1 (n : Nat) : Nat := n - ((n / 2) &&& 1431655765)
def pb_i2 (i : Nat) : Nat := (i &&& 858993459) + ((i / 4) &&& 858993459)
def pb_i3 (i : Nat) : Nat := (i + i / 16) &&& 252645135
def pb_bc (n : Nat) : Nat := (pb_i3 (pb_i2 (pb_i1 n)) + pb_i3 (pb_i2 (pb_i1 n)) / 256 + (pb_i3 (pb_i2 (pb_i1 n)) + pb_i3 (pb_i2 (pb_i1 n)) / 256) / 65536) &&& 63
theorem pb_shr {n : Nat} (hn : n < 2 ^ 32) (s : Int32) (k : Nat) (hs : ((s.toUInt32 &&& Int32.toUInt32 31).toBitVec % 32).toNat = k) : UInt32.toInt32 (Int32.toUInt32 (nI n) >>> (Int32.toUInt32 s &&& Int32.toUInt32 31)) = nI (n / 2 ^ k) := pk_ushrN hn s k hs
theorem pb_bc_of {n : Nat} (hn : n < 65536) : fJ6_bitCount_0f7a4 (nI n) = nI (pb_bc n) := by
  have a1 : (n / 2) &&& 1431655765 ≤ n / 2 := Nat.and_le_left
  have b1 : pb_i1 n ≤ n := Nat.sub_le _ _
  have e1 : nI n - (UInt32.toInt32 (Int32.toUInt32 (nI n) >>> (Int32.toUInt32 (1 : Int32) &&& Int32.toUInt32 31)) &&& (1431655765 : Int32)) = nI (pb_i1 n) := by
    rw [pb_shr (by omega) 1 1 (by decide), fa_lit 1431655765, fa_and, show n / 2 ^ 1 = n / 2 from rfl, pk_sub (by omega)]
    rfl
  have a2 : (pb_i1 n &&& 858993459) ≤ pb_i1 n := Nat.and_le_left
  have a3 : (pb_i1 n / 4) &&& 858993459 ≤ pb_i1 n / 4 := Nat.and_le_left
  have b2 : pb_i2 (pb_i1 n) ≤ 2 * n := by unfold pb_i2; omega
  have e2 : (nI (pb_i1 n) &&& (858993459 : Int32)) + (UInt32.toInt32 (Int32.toUInt32 (nI (pb_i1 n)) >>> (Int32.toUInt32 (2 : Int32) &&& Int32.toUInt32 31)) &&& (858993459 : Int32)) = nI (pb_i2 (pb_i1 n)) := by
    rw [pb_shr (by omega) 2 2 (by decide), fa_lit 858993459, fa_and, fa_and, nI_add]
    rfl
  have a4 : (pb_i2 (pb_i1 n) + pb_i2 (pb_i1 n) / 16) &&& 252645135 ≤ pb_i2 (pb_i1 n) + pb_i2 (pb_i1 n) / 16 := Nat.and_le_left
  have b3 : pb_i3 (pb_i2 (pb_i1 n)) ≤ 4 * n := by unfold pb_i3; omega
  have e3 : (nI (pb_i2 (pb_i1 n)) + UInt32.toInt32 (Int32.toUInt32 (nI (pb_i2 (pb_i1 n))) >>> (Int32.toUInt32 (4 : Int32) &&& Int32.toUInt32 31))) &&& (252645135 : Int32) = nI (pb_i3 (pb_i2 (pb_i1 n))) := by
    rw [pb_shr (by omega) 4 4 (by decide), fa_lit 252645135, nI_add, fa_and]
    rfl
  unfold fJ6_bitCount_0f7a4
  rw [e1, e2, e3, pb_shr (by omega) 8 8 (by decide), nI_add, pb_shr (by omega) 16 16 (by decide), nI_add, fa_lit 63, fa_and]
  rfl
/-- the bits that are set, among the lowest f -/
def pb_pc : Nat → Nat → Nat
  | 0, _ => 0
  | f + 1, v => v % 2 + pb_pc f (v / 2)
theorem pb_and_d (a b : Nat) : (a &&& b) / 2 = (a / 2) &&& (b / 2) := Nat.and_div_two
theorem pb_and_m (a b : Nat) : (a &&& b) % 2 = (a % 2) &&& (b % 2) := by
  have := Nat.and_mod_two_pow (a := a) (b := b) (n := 1)
  simpa using this
/-- the lowest bit away: one less -/
theorem pb_low : ∀ f v, v < 2 ^ f → 0 < v → pb_pc f (v &&& (v - 1)) + 1 = pb_pc f v ∧ v &&& (v - 1) < v
  | 0, v, h, h0 => by simp at h; omega
  | f + 1, v, h, h0 => by
    rw [Nat.pow_succ] at h
    have hd := pb_and_d v (v - 1)
    have hm := pb_and_m v (v - 1)
    unfold pb_pc
    rw [hd, hm]
    have hle : v &&& (v - 1) ≤ v - 1 := Nat.and_le_right
    refine ⟨?_, by omega⟩
    rcases Nat.mod_two_eq_zero_or_one v with e | e
    · have e1 : (v - 1) / 2 = v / 2 - 1 := by omega
      have ih := (pb_low f (v / 2) (by omega) (by omega)).1
      rw [e, e1, Nat.zero_and]
      omega
    · have e1 : (v - 1) / 2 = v / 2 := by omega
      have e2 : (v - 1) % 2 = 0 := by omega
      rw [e, e1, e2, Nat.and_self, Nat.and_zero]
      omega
theorem pb_pc_le : ∀ f v, pb_pc f v ≤ f
  | 0, _ => Nat.le_refl 0
  | f + 1, v => by
    have := pb_pc_le f (v / 2)
    unfold pb_pc
    omega
theorem pb_kern : ∀ c a v n, v < 2 ^ 16 → pb_pc 16 v = c → c < n → pb_ones n (nI a) (nI v) = some (nI (a + c))
  | c, a, v, n, hv, hc, hn => by
    obtain ⟨m, rfl⟩ : ∃ m, n = m + 1 := ⟨n - 1, by omega⟩
    have h0 : (nI v = 0) ↔ v = 0 := pu_eq0 (by omega)
    unfold pb_ones
    by_cases e : v = 0
    · subst e
      have : c = 0 := by rw [← hc]; rfl
      rw [if_pos (h0.mpr rfl), this]
      rfl
    · have hl := pb_low 16 v hv (by omega)
      rw [if_neg (fun x => e (h0.mp x)), nI_1, fa_lit 1, pk_sub (by omega), fa_and]
      obtain ⟨c, rfl⟩ : ∃ d, c = d + 1 := ⟨c - 1, by omega⟩
      rw [pb_kern c (a + 1) (v &&& (v - 1)) m (by omega) (by omega) (by omega)]
      congr 2
      omega
theorem pb_and256 (a b c d : Nat) (hb : b < 256) (hd : d < 256) : (256 * a + b) &&& (256 * c + d) = 256 * (a &&& c) + (b &&& d) := by
  have h1 : ((256 * a + b) &&& (256 * c + d)) / 2 ^ 8 = ((256 * a + b) / 2 ^ 8) &&& ((256 * c + d) / 2 ^ 8) := Nat.and_div_two_pow
  have h2 : ((256 * a + b) &&& (256 * c + d)) % 2 ^ 8 = ((256 * a + b) % 2 ^ 8) &&& ((256 * c + d) % 2 ^ 8) := Nat.and_mod_two_pow
  have e1 : (256 * a + b) / 2 ^ 8 = a := by omega
  have e2 : (256 * c + d) / 2 ^ 8 = c := by omega
  have e3 : (256 * a + b) % 2 ^ 8 = b := by omega
  have e4 : (256 * c + d) % 2 ^ 8 = d := by omega
  rw [e1, e2] at h1
  rw [e3, e4] at h2
  omega
def pb_y (t : Nat) : Nat := t - ((t / 2) &&& 85)
def pb_z (t : Nat) : Nat := (t &&& 51) + ((t / 4) &&& 51)
def pb_u (t : Nat) : Nat := (t + t / 16) &&& 15
theorem pb_c1 : ∀ h, h < 2 → ∀ l, l < 256 → (128 * h + l / 2) &&& 85 = (l / 2) &&& 85 := by decide +kernel
theorem pb_c2 : ∀ h, h < 256 → (h / 2) &&& 5592405 = (h / 2) &&& 85 ∧ h &&& 3355443 = h &&& 51 ∧ (h / 4) &&& 3355443 = (h / 4) &&& 51 ∧ (h + h / 16) &&& 986895 = ((h + h / 16) &&& 15) + ((h + h / 16) &&& 986880) := by decide +kernel
theorem pb_c3 : ∀ a, a < 4 → ∀ b, b < 256 → (64 * a + b / 4) &&& 51 = (b / 4) &&& 51 := by decide +kernel
theorem pb_c4 : ∀ t, t < 256 → pb_y t < 256 ∧ pb_z (pb_y t) ≤ 68 ∧ pb_z (pb_y t) % 16 ≤ 4 ∧ pb_u (pb_z (pb_y t)) = pb_pc 8 t ∧ (pb_z (pb_y t) + pb_z (pb_y t) / 16) &&& 986895 = pb_u (pb_z (pb_y t)) := by decide +kernel
theorem pb_pc_app : ∀ f l h g, l < 2 ^ f → pb_pc (f + g) (2 ^ f * h + l) = pb_pc f l + pb_pc g h
  | 0, l, h, g, hl => by
    have : l = 0 := by simp at hl; exact hl
    subst this
    simp [pb_pc]
  | f + 1, l, h, g, hl => by
    rw [Nat.pow_succ] at hl
    rw [show f + 1 + g = (f + g) + 1 by omega]
    show (2 ^ (f + 1) * h + l) % 2 + pb_pc (f + g) ((2 ^ (f + 1) * h + l) / 2) = (l % 2 + pb_pc f (l / 2)) + pb_pc g h
    have e : 2 ^ (f + 1) * h + l = 2 * (2 ^ f * h) + l := by rw [Nat.pow_succ, Nat.mul_comm (2 ^ f) 2, Nat.mul_assoc]
    rw [e, show (2 * (2 ^ f * h) + l) % 2 = l % 2 by omega, show (2 * (2 ^ f * h) + l) / 2 = 2 ^ f * h + l / 2 by omega, pb_pc_app f (l / 2) h g (by omega)]
    omega
theorem pb_last (x y : Nat) (hx : x ≤ 8) (hy : y ≤ 8) : (256 * x + y + (256 * x + y) / 256 + (256 * x + y + (256 * x + y) / 256) / 65536) % 64 = y + x := by
  have e1 : (256 * x + y) / 256 = x := by omega
  rw [e1]
  have e2 : (256 * x + y + x) / 65536 = 0 := by omega
  rw [e2]
  omega
theorem pb_bc_pc {n : Nat} (hn : n < 65536) : pb_bc n = pb_pc 16 n := by
  obtain ⟨h, l, hh, hl, rfl⟩ : ∃ h l, h < 256 ∧ l < 256 ∧ n = 256 * h + l := ⟨n / 256, n % 256, by omega, by omega, by omega⟩
  have h4 := pb_c4 h hh
  have l4 := pb_c4 l hl
  have hpc : pb_pc 16 (256 * h + l) = pb_pc 8 l + pb_pc 8 h := pb_pc_app 8 l h 8 hl
  have xh : (h / 2) &&& 85 ≤ h / 2 := Nat.and_le_left
  have xl : (l / 2) &&& 85 ≤ l / 2 := Nat.and_le_left
  have s1 : pb_i1 (256 * h + l) = 256 * pb_y h + pb_y l := by
    unfold pb_i1 pb_y
    rw [show (256 * h + l) / 2 = 256 * (h / 2) + (128 * (h % 2) + l / 2) by omega, show (1431655765 : Nat) = 256 * 5592405 + 85 from rfl, pb_and256 _ _ _ _ (by omega) (by decide), (pb_c2 h hh).1, pb_c1 _ (by omega) _ hl]
    omega
  generalize ya : pb_y h = a at *
  generalize yb : pb_y l = b at *
  have s2 : pb_i2 (256 * a + b) = 256 * pb_z a + pb_z b := by
    unfold pb_i2 pb_z
    rw [show (256 * a + b) / 4 = 256 * (a / 4) + (64 * (a % 4) + b / 4) by omega, show (858993459 : Nat) = 256 * 3355443 + 51 from rfl, pb_and256 _ _ _ _ (by omega) (by decide), pb_and256 _ _ _ _ (by omega) (by decide), (pb_c2 a (by omega)).2.1, (pb_c2 a (by omega)).2.2.1, pb_c3 _ (by omega) _ (by omega)]
    omega
  generalize za : pb_z a = c at *
  generalize zb : pb_z b = d at *
  have s3 : pb_i3 (256 * c + d) = 256 * pb_u c + pb_u d := by
    unfold pb_i3
    rw [show (256 * c + d) + (256 * c + d) / 16 = 256 * (c + c / 16) + (d + d / 16 + 16 * (c % 16)) by omega, show (252645135 : Nat) = 256 * 986895 + 15 from rfl, pb_and256 _ _ _ _ (by omega) (by decide), h4.2.2.2.2]
    have e1 : ∀ x, x &&& 15 = x % 16 := fun x => Nat.and_two_pow_sub_one_eq_mod x 4
    congr 1
    unfold pb_u
    rw [e1, e1]
    omega
  have e2 : ∀ x, x &&& 63 = x % 64 := fun x => Nat.and_two_pow_sub_one_eq_mod x 6
  have u1 : pb_u c ≤ 8 := by rw [h4.2.2.2.1]; exact pb_pc_le 8 h
  have u2 : pb_u d ≤ 8 := by rw [l4.2.2.2.1]; exact pb_pc_le 8 l
  unfold pb_bc
  rw [s1, s2, s3, e2, hpc, ← h4.2.2.2.1, ← l4.2.2.2.1]
  exact pb_last _ _ u1 u2
theorem pb_count {n : Nat} (hn : n < 65536) (σ : js_S) : fX8_ones (nI n) σ = some (fJ6_bitCount_0f7a4 (nI n)) := by
  have hp := pb_pc_le 16 n
  unfold fX8_ones
  rw [pb_ones_of, show (0 : Int32) = nI 0 from rfl, pb_kern (pb_pc 16 n) 0 n js_FU (by omega) rfl (by unfold js_FU; omega), pb_bc_of hn, pb_bc_pc hn, Nat.zero_add]
/-! sets of words -/
theorem ps_bit_nat : ∀ w, w < 16 → ps_bit w = nI (2 ^ w) := by decide +kernel
theorem pb_or_lt {a b : Nat} (ha : a < 65536) (hb : b < 65536) : a ||| b < 65536 := Nat.or_lt_two_pow (n := 16) ha hb
def pb_set (x : Int32) : Prop := ∃ n, n < 65536 ∧ x = nI n
theorem pb_set.or {x y : Int32} (hx : pb_set x) (hy : pb_set y) : pb_set (x ||| y) := by
  obtain ⟨a, ha, rfl⟩ := hx
  obtain ⟨b, hb, rfl⟩ := hy
  exact ⟨a ||| b, pb_or_lt ha hb, fa_or a b⟩
theorem pb_set.zero : pb_set 0 := ⟨0, by decide, rfl⟩
theorem pb_set.bit {w : Nat} (hw : w < 16) : pb_set (ps_bit w) := ⟨2 ^ w, by
  have := Nat.pow_lt_pow_right (a := 2) (by decide) hw
  omega, ps_bit_nat w hw⟩
theorem pb_set.fold {F : Nat → Int32} : ∀ (d i : Nat) (a : Int32), pb_set a → (∀ k, i ≤ k → k < i + d → pb_set (F k)) → pb_set (pu_fold (fun s k => s ||| F k) a i d)
  | 0, _, _, ha, _ => ha
  | d + 1, i, a, ha, h => pb_set.fold d (i + 1) _ (ha.or (h i (Nat.le_refl _) (by omega))) fun k h1 h2 => h k (by omega) (by omega)
theorem ps_words_set {A : Nat → Nat} (hB : pv_B A) {f b : Nat} (hf : f < 6) (hb : b < 8) : pb_set (ps_words A f b) := by
  have hg := hB.hg (p := 8 * f + b) (by omega)
  refine pb_set.fold _ _ _ pb_set.zero fun k _ hk => pb_set.bit ?_
  have := hB.wd (i := 6 * (8 * f + b) + k) (by omega)
  omega
theorem ps_wordsOf_set {A : Nat → Nat} (hB : pv_B A) {f : Nat} (hf : f < 6) : pb_set (ps_wordsOf A f) := pb_set.fold _ _ _ pb_set.zero fun k _ hk => ps_words_set hB hf (by omega)
