/-! PURE: what the functions say. Numbers, folds, loops. -/
theorem pu_gd {α : Type} {n N : Nat} {o : Option α} (h : n < N) (hN : N < 2 ^ 31) : js_gd (js_ix (nI n) N) o = o := by
  have h1 : (nI n).toInt = (n : Int) := nI_toInt (by omega)
  have h2 : js_ix (nI n) N = true := by
    unfold js_ix
    rw [h1]
    simp
    omega
  unfold js_gd
  rw [h2]
  rfl
theorem pu_cl {n : Nat} (h : n < 2 ^ 31) : Int32.toNatClampNeg (nI n) = n := nI_clamp h
theorem pu_gt {α : Type} {o : Option α} : js_gd true o = o := rfl
theorem pu_b0 : js_b01 0 = true := rfl
theorem pu_b1 : js_b01 1 = true := rfl
/-- an int that is one of 0 .. n - 1 -/
abbrev pu_in (x : Int32) (n : Nat) : Prop := 0 ≤ x.toInt ∧ x.toInt < (n : Int)
theorem pu_in_of {x : Int32} {n : Nat} (h : pu_in x n) (hn : n < 2 ^ 31) : ∃ j, j < n ∧ x = nI j := by
  refine ⟨x.toInt.toNat, by omega, ?_⟩
  rw [fa_eq, nI_toInt (by omega)]
  omega
theorem pu_in_nI {j n : Nat} (h : j < n) (hn : n < 2 ^ 31) : pu_in (nI j) n := by
  unfold pu_in
  rw [nI_toInt (by omega)]
  omega
theorem pu_below (x : Int32) {n : Nat} (hn : n < 2 ^ 31) : fX7_isBelow x (nI n) = if pu_in x n then 1 else 0 := by
  unfold fX7_isBelow
  have h0 : (x < 0) ↔ x.toInt < 0 := by rw [fa_lt]; rfl
  have h1 : (nI n ≤ x) ↔ (n : Int) ≤ x.toInt := by rw [fa_le, nI_toInt hn]
  simp only [h0, h1]
  repeat' split
  all_goals first | rfl | (exfalso; omega)
theorem pu_fin (a b c : Int64) : fX8_in a b c = if b.toInt ≤ a.toInt ∧ a.toInt ≤ c.toInt then 1 else 0 := by
  unfold fX8_in
  simp only [lg_cmp_lt, lg_cmp_gt, fa_lt64]
  repeat' split
  all_goals first | rfl | (exfalso; omega)
theorem pu_tl (n : Nat) (h : n < 2 ^ 31) : (lN n).toInt = (n : Int) := lN_toInt h
/-- the reference's test of a range from 0 to a constant -/
theorem pu_in0 (x : Int32) {n : Nat} (hn : n < 2 ^ 31) : fX8_in (Int32.toInt64 x) (0 : Int64) (lN n) = if pu_in x (n + 1) then 1 else 0 := by
  rw [pu_fin, lN_toInt hn, Int32.toInt_toInt64]
  have h0 : (0 : Int64).toInt = 0 := rfl
  rw [h0]
  repeat' split
  all_goals first | rfl | (exfalso; omega)
theorem pu_inI (x y : Int32) : fX8_in (Int32.toInt64 x) (0 : Int64) (Int32.toInt64 y) = if 0 ≤ x.toInt ∧ x.toInt ≤ y.toInt then 1 else 0 := by
  rw [pu_fin, Int32.toInt_toInt64, Int32.toInt_toInt64]
  rfl
theorem pu_sub1 {n : Nat} (h : n < 2 ^ 30) : (nI n - (1 : Int32)).toInt = (n : Int) - 1 := pk_sub_toInt (a := n) (b := 1) h (by decide)
/-- the reference's test of a range below a number that is held -/
theorem pu_inS (x : Int32) {n : Nat} (h : n < 2 ^ 30) : fX8_in (Int32.toInt64 x) (0 : Int64) (Int32.toInt64 (nI n - (1 : Int32))) = if pu_in x n then 1 else 0 := by
  rw [pu_inI, pu_sub1 h]
  repeat' split
  all_goals first | rfl | (exfalso; omega)
theorem pu_C_isKind (x : Int32) : fX7_isKind x = if pu_in x 6 then 1 else 0 := pu_below x (n := 6) (by decide)
theorem pu_C_isWord (x : Int32) : fX7_isWord x = if pu_in x 16 then 1 else 0 := pu_below x (n := 16) (by decide)
theorem pu_C_isVoice (x : Int32) : fX7_isVoice x = if pu_in x 10 then 1 else 0 := pu_below x (n := 10) (by decide)
theorem pu_C_isSet (x : Int32) : fX7_isSet x = if pu_in x 65536 then 1 else 0 := pu_below x (n := 65536) (by decide)
theorem pu_C_isBend (x : Int32) : fX7_isBend x = if pu_in x 8 then 1 else 0 := pu_below x (n := 8) (by decide)
theorem pu_M_isKind (x : Int32) : fX8_isKind x = if pu_in x 6 then 1 else 0 := pu_in0 x (n := 5) (by decide)
theorem pu_M_isWord (x : Int32) : fX8_isWord x = if pu_in x 16 then 1 else 0 := pu_in0 x (n := 15) (by decide)
theorem pu_M_isVoice (x : Int32) : fX8_isVoice x = if pu_in x 10 then 1 else 0 := pu_in0 x (n := 9) (by decide)
theorem pu_M_areWords (x : Int32) : fX8_areWords x = if pu_in x 65536 then 1 else 0 := pu_in0 x (n := 65535) (by decide)
theorem pu_M_isBend (x : Int32) : fX8_isBend x = if pu_in x 8 then 1 else 0 := pu_in0 x (n := 7) (by decide)
/-- 1 to 9 -/
abbrev pu_st (x : Int32) : Prop := 1 ≤ x.toInt ∧ x.toInt ≤ 9
theorem pu_C_isStrength (x : Int32) : fX7_isStrength x = if pu_st x then 1 else 0 := by
  unfold fX7_isStrength
  have h1 : (x < (1 : Int32)) ↔ x.toInt < 1 := by rw [fa_lt]; rfl
  have h2 : ((9 : Int32) < x) ↔ 9 < x.toInt := by rw [fa_lt]; rfl
  simp only [h1, h2]
  repeat' split
  all_goals first | rfl | (exfalso; omega)
theorem pu_M_isStrength (x : Int32) : fX8_isStrength x = if pu_st x then 1 else 0 := by
  unfold fX8_isStrength
  rw [pu_fin, Int32.toInt_toInt64]
  rfl
theorem pu_st_of {x : Int32} (h : pu_st x) : ∃ j, 1 ≤ j ∧ j ≤ 9 ∧ x = nI j := by
  refine ⟨x.toInt.toNat, by omega, by omega, ?_⟩
  rw [fa_eq, nI_toInt (by omega)]
  omega
/-! folds and loops -/
def pu_fold {α : Type} (g : α → Nat → α) (a : α) (i : Nat) : Nat → α
  | 0 => a
  | d + 1 => pu_fold g (g a i) (i + 1) d
theorem pu_fold_cong {α : Type} {g h : α → Nat → α} : ∀ (d : Nat) (a : α) (i : Nat), (∀ b j, i ≤ j → j < i + d → g b j = h b j) → pu_fold g a i d = pu_fold h a i d
  | 0, _, _, _ => rfl
  | d + 1, a, i, e => by
    show pu_fold g (g a i) (i + 1) d = pu_fold h (h a i) (i + 1) d
    rw [e a i (Nat.le_refl _) (by omega)]
    exact pu_fold_cong d _ _ fun b j h1 h2 => e b j (by omega) (by omega)
theorem pu_fold_end {α : Type} (g : α → Nat → α) : ∀ (d : Nat) (a : α) (i : Nat), pu_fold g a i (d + 1) = g (pu_fold g a i d) (i + d)
  | 0, _, _ => rfl
  | d + 1, a, i => by
    show pu_fold g (g a i) (i + 1) (d + 1) = g (pu_fold g (g a i) (i + 1) d) (i + (d + 1))
    rw [pu_fold_end g d, show i + 1 + d = i + (d + 1) by omega]
theorem pu_fold_add {α : Type} (g : α → Nat → α) (a : α) (i d : Nat) : ∀ e : Nat, pu_fold g a i (d + e) = pu_fold g (pu_fold g a i d) (i + d) e
  | 0 => rfl
  | e + 1 => by rw [show d + (e + 1) = (d + e) + 1 by omega, pu_fold_end, pu_fold_end, pu_fold_add g a i d e, Nat.add_assoc]
theorem pu_fold_shift {α : Type} (g : α → Nat → α) (c : Nat) : ∀ (d : Nat) (a : α) (i : Nat), pu_fold g a (c + i) d = pu_fold (fun b j => g b (c + j)) a i d
  | 0, _, _ => rfl
  | d + 1, a, i => by
    show pu_fold g (g a (c + i)) (c + i + 1) d = _
    rw [Nat.add_assoc, pu_fold_shift g c d]
    rfl
/-- a walk over rows of m, row by row -/
theorem pu_fold_rows {α : Type} (g : α → Nat → α) (m : Nat) (a : α) : ∀ n : Nat, pu_fold g a 0 (m * n) = pu_fold (fun b i => pu_fold (fun e j => g e (m * i + j)) b 0 m) a 0 n
  | 0 => rfl
  | n + 1 => by
    rw [Nat.mul_succ, pu_fold_add, pu_fold_rows g m a n, pu_fold_end, Nat.zero_add, Nat.zero_add]
    have h := pu_fold_shift g (m * n) m (pu_fold (fun b i => pu_fold (fun e j => g e (m * i + j)) b 0 m) a 0 n) 0
    rw [Nat.add_zero] at h
    exact h
/-- a loop that counts up, as a fold; I: what holds of what it carries -/
theorem pu_loop {α R : Type} (L : Nat → α → Int32 → R) (g : α → Nat → α) (fin : α → R) (I : α → Nat → Prop) (N : Nat)
    (hs : ∀ n a i, i < N → I a i → L (n + 1) a (nI i) = L n (g a i) (nI (i + 1)) ∧ I (g a i) (i + 1)) (he : ∀ n a, I a N → L (n + 1) a (nI N) = fin a) :
    ∀ d i n a, i + d = N → d < n → I a i → L n a (nI i) = fin (pu_fold g a i d) ∧ I (pu_fold g a i d) N
  | 0, i, n, a, hi, hn, h => by
    obtain ⟨m, rfl⟩ : ∃ m, n = m + 1 := ⟨n - 1, by omega⟩
    have : i = N := by omega
    subst this
    exact ⟨he m a h, h⟩
  | d + 1, i, n, a, hi, hn, h => by
    obtain ⟨m, rfl⟩ : ∃ m, n = m + 1 := ⟨n - 1, by omega⟩
    obtain ⟨h1, h2⟩ := hs m a i (by omega) h
    rw [h1]
    exact pu_loop L g fin I N hs he d (i + 1) m (g a i) (by omega) (by omega) h2
/-- the same, from 0, with js_FU and nothing to keep -/
theorem pu_loop0 {α R : Type} (L : Nat → α → Int32 → R) (g : α → Nat → α) (fin : α → R) (N : Nat) (hN : N < 1000)
    (hs : ∀ n a i, i < N → L (n + 1) a (nI i) = L n (g a i) (nI (i + 1))) (he : ∀ n a, L (n + 1) a (nI N) = fin a) (a : α) : L js_FU a (0 : Int32) = fin (pu_fold g a 0 N) :=
  (pu_loop L g fin (fun _ _ => True) N (fun n a i h _ => ⟨hs n a i h, trivial⟩) (fun n a _ => he n a) N 0 js_FU a (by omega) (by unfold js_FU; omega) trivial).1
theorem pu_loopI {α R : Type} (L : Nat → α → Int32 → R) (g : α → Nat → α) (fin : α → R) (I : α → Nat → Prop) (N : Nat) (hN : N < 1000)
    (hs : ∀ n a i, i < N → I a i → L (n + 1) a (nI i) = L n (g a i) (nI (i + 1)) ∧ I (g a i) (i + 1)) (he : ∀ n a, I a N → L (n + 1) a (nI N) = fin a) (a : α) (h : I a 0) : L js_FU a (0 : Int32) = fin (pu_fold g a 0 N) ∧ I (pu_fold g a 0 N) N :=
  pu_loop L g fin I N hs he N 0 js_FU a (by omega) (by unfold js_FU; omega) h
/-- folds of an operation whose order doesn't matter: backwards is forwards -/
theorem pu_fold_op {α : Type} (op : α → α → α) (ha : ∀ a b c, op (op a b) c = op a (op b c)) (hc : ∀ a b, op a b = op b a) (F : Nat → α) : ∀ (d : Nat) (a x : α) (i : Nat), pu_fold (fun s k => op s (F k)) (op a x) i d = op (pu_fold (fun s k => op s (F k)) a i d) x
  | 0, _, _, _ => rfl
  | d + 1, a, x, i => by
    show pu_fold _ (op (op a x) (F i)) (i + 1) d = op (pu_fold _ (op a (F i)) (i + 1) d) x
    rw [ha, hc x (F i), ← ha]
    exact pu_fold_op op ha hc F d (op a (F i)) x (i + 1)
theorem pu_fold_rev {α : Type} (op : α → α → α) (ha : ∀ a b c, op (op a b) c = op a (op b c)) (hc : ∀ a b, op a b = op b a) (F : Nat → α) : ∀ (d : Nat) (a : α), pu_fold (fun s k => op s (F (d - 1 - k))) a 0 d = pu_fold (fun s k => op s (F k)) a 0 d
  | 0, _ => rfl
  | d + 1, a => by
    rw [pu_fold_end (fun s k => op s (F k)), Nat.zero_add]
    show pu_fold (fun s k => op s (F (d + 1 - 1 - k))) (op a (F (d + 1 - 1 - 0))) (0 + 1) d = _
    have h1 := pu_fold_shift (fun s k => op s (F (d + 1 - 1 - k))) 1 d (op a (F (d + 1 - 1 - 0))) 0
    rw [Nat.add_zero] at h1
    rw [Nat.zero_add, h1]
    rw [pu_fold_cong (h := fun s k => op s (F (d - 1 - k))) d _ 0 (fun b j h1 h2 => by
      show op b (F (d + 1 - 1 - (1 + j))) = op b (F (d - 1 - j))
      rw [show d + 1 - 1 - (1 + j) = d - 1 - j by omega])]
    rw [show d + 1 - 1 - 0 = d by omega]
    have h2 := pu_fold_op op ha hc (fun k => F (d - 1 - k)) d a (F d) 0
    rw [h2, pu_fold_rev op ha hc F d a]
/-- the first place of a range where it is so -/
def pu_first (p : Nat → Bool) (i : Nat) : Nat → Option Nat
  | 0 => none
  | d + 1 => if p i then some i else pu_first p (i + 1) d
theorem pu_first_cong {p q : Nat → Bool} : ∀ (d i : Nat), (∀ j, i ≤ j → j < i + d → p j = q j) → pu_first p i d = pu_first q i d
  | 0, _, _ => rfl
  | d + 1, i, e => by
    show (if p i then some i else pu_first p (i + 1) d) = (if q i then some i else pu_first q (i + 1) d)
    rw [e i (Nat.le_refl _) (by omega), pu_first_cong d (i + 1) (fun j h1 h2 => e j (by omega) (by omega))]
theorem pu_first_lt {p : Nat → Bool} : ∀ (d i j : Nat), pu_first p i d = some j → i ≤ j ∧ j < i + d ∧ p j = true
  | 0, _, _, h => by cases h
  | d + 1, i, j, h => by
    unfold pu_first at h
    split at h
    · cases h; exact ⟨Nat.le_refl _, by omega, by assumption⟩
    · obtain ⟨a, b, c⟩ := pu_first_lt d (i + 1) j h
      exact ⟨by omega, by omega, c⟩
