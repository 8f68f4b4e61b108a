/-! How great all can become. -/
def sN : Nat → (Nat → Nat) → Nat
  | 0, _ => 0
  | n + 1, f => sN n f + f n
def pN : Nat → (Nat → Nat) → Nat
  | 0, _ => 1
  | n + 1, f => f 0 * pN n (fun y => f (y + 1))
theorem sN_le {n : Nat} {f g : Nat → Nat} (h : ∀ i, i < n → f i ≤ g i) : sN n f ≤ sN n g := by
  induction n with
  | zero => exact Nat.le_refl _
  | succ n ih => exact Nat.add_le_add (ih (fun i hi => h i (by omega))) (h n (by omega))
theorem sN_mul {n c : Nat} {f : Nat → Nat} : sN n (fun i => c * f i) = c * sN n f := by
  induction n with
  | zero => rfl
  | succ n ih => show sN n (fun i => c * f i) + c * f n = c * (sN n f + f n); rw [ih, Nat.mul_add]
theorem sN_mulr {n c : Nat} {f : Nat → Nat} : sN n (fun i => f i * c) = sN n f * c := by
  induction n with
  | zero => exact (Nat.zero_mul c).symm
  | succ n ih => show sN n (fun i => f i * c) + f n * c = (sN n f + f n) * c; rw [ih, Nat.add_mul]
theorem sN_add {n : Nat} {f g : Nat → Nat} : sN n (fun i => f i + g i) = sN n f + sN n g := by
  induction n with
  | zero => rfl
  | succ n ih => show sN n (fun i => f i + g i) + (f n + g n) = (sN n f + f n) + (sN n g + g n); rw [ih]; omega
theorem sN_zero {n : Nat} {f : Nat → Nat} (h : ∀ i, i < n → f i = 0) : sN n f = 0 := by
  induction n with
  | zero => rfl
  | succ n ih => show sN n f + f n = 0; rw [ih (fun i hi => h i (by omega)), h n (by omega)]
theorem sN_swap {n m : Nat} {f : Nat → Nat → Nat} : sN n (fun i => sN m (fun j => f i j)) = sN m (fun j => sN n (fun i => f i j)) := by
  induction n with
  | zero => exact (sN_zero (fun _ _ => rfl)).symm
  | succ n ih =>
    show sN n (fun i => sN m (fun j => f i j)) + sN m (fun j => f n j) = sN m (fun j => sN n (fun i => f i j) + f n j)
    rw [ih, sN_add]
theorem sN_sub {n k i : Nat} {f : Nat → Nat} (hk : k ≤ i) (hi : i < n) : sN k f + f i ≤ sN n f := by
  induction n with
  | zero => omega
  | succ n ih =>
    show _ ≤ sN n f + f n
    by_cases e : i = n
    · subst e
      clear ih hi
      have : ∀ m, k ≤ m → sN k f ≤ sN m f := fun m hm => by
        induction m with
        | zero => have : k = 0 := by omega
                  subst this; exact Nat.le_refl _
        | succ m ih =>
          by_cases e : k = m + 1
          · subst e; exact Nat.le_refl _
          · exact Nat.le_trans (ih (by omega)) (Nat.le_add_right _ _)
      have := this i hk
      omega
    · have := ih (by omega)
      omega
theorem sN_mon {f : Nat → Nat} : ∀ {k n : Nat}, k ≤ n → sN k f ≤ sN n f := by
  intro k n h
  induction n with
  | zero => have : k = 0 := by omega
            subst this; exact Nat.le_refl _
  | succ m ih =>
    by_cases e : k = m + 1
    · subst e; exact Nat.le_refl _
    · exact Nat.le_trans (ih (by omega)) (Nat.le_add_right _ _)
theorem sm_abs {n : Nat} {f : Nat → Int} : (sm n f).natAbs ≤ sN n (fun i => (f i).natAbs) := by
  induction n with
  | zero => exact Nat.le_refl _
  | succ n ih =>
    show (sm n f + f n).natAbs ≤ sN n (fun i => (f i).natAbs) + (f n).natAbs
    omega
theorem sN_sk {f : Nat → Nat} {i : Nat} : ∀ m, i ≤ m → sN m (fun x => f (sk i x)) + f i = sN (m + 1) f := by
  intro m
  induction m with
  | zero =>
    intro h
    have : i = 0 := by omega
    subst this
    rfl
  | succ m ih =>
    intro h
    by_cases e : i = m + 1
    · subst e
      show _ = sN (m + 1) f + f (m + 1)
      congr 1
      have : ∀ n, n ≤ m + 1 → sN n (fun x => f (sk (m + 1) x)) = sN n f := fun n hn => by
        induction n with
        | zero => rfl
        | succ n ih2 =>
          show sN n (fun x => f (sk (m + 1) x)) + f (sk (m + 1) n) = sN n f + f n
          rw [ih2 (by omega)]
          unfold sk
          rw [if_pos (by omega)]
      exact this _ (Nat.le_refl _)
    · have := ih (by omega)
      show sN m (fun x => f (sk i x)) + f (sk i m) + f i = sN (m + 1) f + f (m + 1)
      have e2 : sk i m = m + 1 := by unfold sk; rw [if_neg (by omega)]
      rw [e2]
      omega
theorem pN_le : ∀ {n : Nat} {f g : Nat → Nat}, (∀ i, i < n → f i ≤ g i) → pN n f ≤ pN n g := by
  intro n
  induction n with
  | zero => intro f g _; exact Nat.le_refl _
  | succ n ih => intro f g h; exact Nat.mul_le_mul (h 0 (by omega)) (ih (fun i hi => h (i + 1) (by omega)))
theorem pN_last : ∀ {n : Nat} {f : Nat → Nat}, pN (n + 1) f = pN n f * f n := by
  intro n
  induction n with
  | zero => intro f; show f 0 * 1 = 1 * f 0; omega
  | succ n ih =>
    intro f
    show f 0 * pN (n + 1) (fun y => f (y + 1)) = f 0 * pN n (fun y => f (y + 1)) * f (n + 1)
    rw [ih, Nat.mul_assoc]
theorem pN_pos {n : Nat} {f : Nat → Nat} (h : ∀ i, i < n → 1 ≤ f i) : 1 ≤ pN n f := by
  induction n with
  | zero => exact Nat.le_refl _
  | succ n ih =>
    rw [pN_last]
    exact Nat.mul_pos (ih (fun i hi => h i (by omega))) (h n (by omega))
theorem pN_mon {f : Nat → Nat} (h : ∀ i, 1 ≤ f i) : ∀ {k n : Nat}, k ≤ n → pN k f ≤ pN n f := by
  intro k n hk
  induction n with
  | zero => have : k = 0 := by omega
            subst this; exact Nat.le_refl _
  | succ m ih =>
    by_cases e : k = m + 1
    · subst e; exact Nat.le_refl _
    · rw [pN_last]
      exact Nat.le_trans (ih (by omega)) (Nat.le_mul_of_pos_right _ (h m))
theorem det_bnd : ∀ {m : Nat} {M : Mx}, (det m M).natAbs ≤ pN m (fun y => sN m (fun x => (M x y).natAbs)) := by
  intro m
  induction m with
  | zero => intro M; exact Nat.le_refl _
  | succ m ih =>
    intro M
    rw [det_s]
    refine Nat.le_trans sm_abs ?_
    have h1 : ∀ i, i < m + 1 → (sg i * M i 0 * det m (dl M i)).natAbs ≤ (M i 0).natAbs * pN m (fun y => sN (m + 1) (fun x => (M x (y + 1)).natAbs)) := by
      intro i hi
      have s1 : (sg i).natAbs = 1 := by unfold sg; split <;> rfl
      rw [Int.natAbs_mul, Int.natAbs_mul, s1, Nat.one_mul]
      refine Nat.mul_le_mul_left _ (Nat.le_trans ih (pN_le (fun y hy => ?_)))
      have := sN_sk (f := fun x => (M x (y + 1)).natAbs) m (show i ≤ m by omega)
      show sN m (fun x => (M (sk i x) (y + 1)).natAbs) ≤ _
      omega
    refine Nat.le_trans (sN_le h1) ?_
    rw [sN_mulr]
    exact Nat.le_refl _
/-! a bordered minor -/
section
variable {n k i j : Nat} {T : Mx}
theorem DK_bnd (hk : k ≤ n) (hi : k ≤ i) : (DK k (BX n T) i j).natAbs ≤ pN k (fun y => sN n (fun x => (T x y).natAbs) + 1) * (sN n (fun x => (T x j).natAbs) + 1) := by
  have col : ∀ y, sN k (fun x => (BX n T x y).natAbs) + (BX n T i y).natAbs ≤ sN n (fun x => (T x y).natAbs) + 1 := by
    intro y
    have e : sN k (fun x => (BX n T x y).natAbs) = sN k (fun x => (T x y).natAbs) := Nat.le_antisymm (sN_le (fun x hx => by rw [BX_lt (by omega)]; exact Nat.le_refl _)) (sN_le (fun x hx => by rw [BX_lt (by omega)]; exact Nat.le_refl _))
    rw [e]
    by_cases h : i < n
    · rw [BX_lt h]
      have := sN_sub (f := fun x => (T x y).natAbs) hi h
      omega
    · have : (BX n T i y).natAbs ≤ 1 := by
        unfold BX
        rw [if_neg h]
        split <;> decide
      have := sN_mon (f := fun x => (T x y).natAbs) hk
      omega
  unfold DK
  refine Nat.le_trans det_bnd ?_
  rw [pN_last]
  refine Nat.mul_le_mul (pN_le (fun y hy => ?_)) ?_
  · show sN k (fun x => (brd (BX n T) k i j x y).natAbs) + (brd (BX n T) k i j k y).natAbs ≤ _
    have e1 : sN k (fun x => (brd (BX n T) k i j x y).natAbs) ≤ sN k (fun x => (BX n T x y).natAbs) := sN_le (fun x hx => by unfold brd; rw [if_neg (by omega), if_neg (by omega)]; exact Nat.le_refl _)
    have e2 : brd (BX n T) k i j k y = BX n T i y := by unfold brd; rw [if_pos rfl, if_neg (by omega)]
    rw [e2]
    exact Nat.le_trans (Nat.add_le_add_right e1 _) (col y)
  · show sN k (fun x => (brd (BX n T) k i j x k).natAbs) + (brd (BX n T) k i j k k).natAbs ≤ _
    have e1 : sN k (fun x => (brd (BX n T) k i j x k).natAbs) ≤ sN k (fun x => (BX n T x j).natAbs) := sN_le (fun x hx => by unfold brd; rw [if_neg (by omega), if_pos rfl]; exact Nat.le_refl _)
    have e2 : brd (BX n T) k i j k k = BX n T i j := by unfold brd; rw [if_pos rfl, if_pos rfl]
    rw [e2]
    exact Nat.le_trans (Nat.add_le_add_right e1 _) (col j)
theorem GI_bnd (hk : k ≤ n) : (GI n T k i j).natAbs ≤ pN k (fun y => sN n (fun x => (T x y).natAbs) + 1) * (sN n (fun x => (T x j).natAbs) + 1) := by
  unfold GI
  by_cases h1 : j < k
  · rw [if_pos h1]
    by_cases h2 : i = j
    · rw [if_pos h2]
      refine Nat.le_trans det_bnd (Nat.le_trans (pN_le (fun y hy => ?_)) (Nat.le_mul_of_pos_right _ (by omega)))
      have := sN_mon (f := fun x => (T x y).natAbs) hk
      omega
    · rw [if_neg h2]; exact Nat.zero_le _
  · rw [if_neg h1]
    by_cases h2 : i < k
    · rw [if_pos h2]; exact DK_bnd hk (by omega)
    · rw [if_neg h2]; exact DK_bnd hk (by omega)
end
/-! five numbers and their sum -/
theorem am2 (a b : Nat) : 4 * (a * b) ≤ (a + b) * (a + b) := by
  rcases Nat.le_total a b with h | h
  · obtain ⟨c, rfl⟩ := Nat.le.dest h
    have : (a + (a + c)) * (a + (a + c)) = 4 * (a * (a + c)) + c * c := by grind
    omega
  · obtain ⟨c, rfl⟩ := Nat.le.dest h
    have : (b + c + b) * (b + c + b) = 4 * ((b + c) * b) + c * c := by grind
    omega
theorem am4 (a b c e : Nat) : 256 * (a * b * (c * e)) ≤ (a + b + (c + e)) * (a + b + (c + e)) * ((a + b + (c + e)) * (a + b + (c + e))) := by
  have h1 := am2 a b
  have h2 := am2 c e
  have h3 := am2 (a + b) (c + e)
  generalize a + b = p at *
  generalize c + e = q at *
  have h4 : (4 * (a * b)) * (4 * (c * e)) ≤ (p * p) * (q * q) := Nat.mul_le_mul h1 h2
  have h5 : (4 * (p * q)) * (4 * (p * q)) ≤ ((p + q) * (p + q)) * ((p + q) * (p + q)) := Nat.mul_le_mul h3 h3
  have e1 : (4 * (a * b)) * (4 * (c * e)) = 16 * (a * b * (c * e)) := by grind
  have e2 : (4 * (p * q)) * (4 * (p * q)) = 16 * ((p * p) * (q * q)) := by grind
  omega
theorem s93 : ∀ s, s ≤ 93 → s * s * (s * s) * (93 - s) ≤ 256 * 2226204 := by decide +kernel
theorem am5 {a b c e f : Nat} (h : a + b + (c + e) + f ≤ 93) : a * b * (c * e) * f ≤ 2226204 := by
  have h4 := am4 a b c e
  have hs := s93 (a + b + (c + e)) (by omega)
  have h5 : 256 * (a * b * (c * e)) * f ≤ (a + b + (c + e)) * (a + b + (c + e)) * ((a + b + (c + e)) * (a + b + (c + e))) * (93 - (a + b + (c + e))) := Nat.mul_le_mul h4 (by omega)
  have : 256 * (a * b * (c * e)) * f = 256 * (a * b * (c * e) * f) := Nat.mul_assoc _ _ _
  omega
theorem pN5 {f : Nat → Nat} (h : sN 5 f ≤ 93) : pN 5 f ≤ 2226204 := by
  have e : sN 5 f = 0 + f 0 + f 1 + f 2 + f 3 + f 4 := rfl
  have e2 : pN 5 f = f 0 * (f 1 * (f 2 * (f 3 * (f 4 * 1)))) := rfl
  have := am5 (a := f 0) (b := f 1) (c := f 2) (e := f 3) (f := f 4) (by omega)
  rw [e2]
  have e3 : f 0 * (f 1 * (f 2 * (f 3 * (f 4 * 1)))) = f 0 * f 1 * (f 2 * f 3) * f 4 := by grind
  omega
theorem pN4 {f : Nat → Nat} (h : sN 4 f ≤ 92) : pN 4 f ≤ 279841 := by
  have e : sN 4 f = 0 + f 0 + f 1 + f 2 + f 3 := rfl
  have e2 : pN 4 f = f 0 * (f 1 * (f 2 * (f 3 * 1))) := rfl
  have h4 := am4 (f 0) (f 1) (f 2) (f 3)
  have hs : f 0 + f 1 + (f 2 + f 3) ≤ 92 := by omega
  generalize f 0 + f 1 + (f 2 + f 3) = s at h4 hs
  have h5 : s * s * (s * s) ≤ 92 * 92 * (92 * 92) := Nat.mul_le_mul (Nat.mul_le_mul hs hs) (Nat.mul_le_mul hs hs)
  rw [e2]
  have e3 : f 0 * (f 1 * (f 2 * (f 3 * 1))) = f 0 * f 1 * (f 2 * f 3) := by grind
  omega
