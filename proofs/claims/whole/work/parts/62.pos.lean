/-! What elimination solves; all heads are above 0. -/
theorem sm_sub {n : Nat} {f g : Nat → Int} : sm n (fun i => f i - g i) = sm n f - sm n g := by
  induction n with
  | zero => rfl
  | succ n ih => show sm n (fun i => f i - g i) + (f n - g n) = (sm n f + f n) - (sm n g + g n); rw [ih]; omega
theorem sm_neg {n : Nat} {f : Nat → Int} : sm n (fun i => - f i) = - sm n f := by
  induction n with
  | zero => rfl
  | succ n ih => show sm n (fun i => - f i) + (- f n) = - (sm n f + f n); rw [ih]; omega
theorem sm_mulr {n : Nat} {f : Nat → Int} {c : Int} : sm n (fun i => f i * c) = sm n f * c := by
  rw [Int.mul_comm, ← sm_mul]
  exact sm_congr (fun i _ => Int.mul_comm _ _)
theorem sm_swap {n m : Nat} {f : Nat → Nat → Int} : sm n (fun i => sm m (fun j => f i j)) = sm m (fun j => sm n (fun i => f i j)) := by
  induction n with
  | zero => exact (sm_zero (fun _ _ => rfl)).symm
  | succ n ih =>
    show sm n (fun i => sm m (fun j => f i j)) + sm m (fun j => f n j) = sm m (fun j => sm n (fun i => f i j) + f n j)
    rw [ih, sm_add]
theorem sm_cut {n k : Nat} {f : Nat → Int} (hk : k ≤ n) (h : ∀ i, i < n → k ≤ i → f i = 0) : sm n f = sm k f := by
  induction n with
  | zero => have : k = 0 := by omega
            subst this; rfl
  | succ n ih =>
    by_cases e : k = n + 1
    · subst e; rfl
    · show sm n f + f n = sm k f
      rw [ih (by omega) (fun i hi => h i (by omega)), h n (by omega) (by omega), Int.add_zero]
section
variable {n k i j : Nat} {T : Mx}
def SC (n : Nat) (T : Mx) (k i j : Nat) : Int := if i < k then 0 else GI n T k i j
theorem schur : ∀ (k : Nat) {i j : Nat}, k ≤ n → (∀ t, t < k → det t T ≠ 0) → i < n → k ≤ j → sm k (fun c => T i c * GI n T k c j) = det k T * T i j - SC n T k i j := by
  intro k
  induction k with
  | zero =>
    intro i j _ _ hi _
    show 0 = 1 * T i j - SC n T 0 i j
    unfold SC
    rw [if_neg (by omega), GI_0 hi]
    omega
  | succ k ih =>
    intro i j hk hd hi hj
    have hd' : ∀ t, t ≤ k → det t T ≠ 0 := fun t ht => hd t (by omega)
    have i1 := ih (i := i) (j := j) (by omega) (fun t ht => hd t (by omega)) hi (by omega)
    have i2 := ih (i := i) (j := k) (by omega) (fun t ht => hd t (by omega)) hi (by omega)
    apply Int.eq_of_mul_eq_mul_left (hd' k (Nat.le_refl _))
    show det k T * (sm k (fun c => T i c * GI n T (k + 1) c j) + T i k * GI n T (k + 1) k j) = _
    rw [GI_row (by omega) hd', Int.mul_add, ← sm_mul]
    have e1 : sm k (fun c => det k T * (T i c * GI n T (k + 1) c j)) = sm k (fun c => GI n T k k k * (T i c * GI n T k c j) - GI n T k k j * (T i c * GI n T k c k)) :=
      sm_congr (fun c hc => by
        have := GI_step (j := j) (show k < n by omega) (show c < n by omega) (by omega) hd'
        calc det k T * (T i c * GI n T (k + 1) c j) = T i c * (det k T * GI n T (k + 1) c j) := by grind
          _ = T i c * (GI n T k k k * GI n T k c j - GI n T k c k * GI n T k k j) := by rw [this]
          _ = _ := by grind)
    rw [e1, sm_sub, sm_mul, sm_mul, i1, i2]
    unfold SC
    have g1 := GI_kk (T := T) (show k < n by omega)
    by_cases h1 : i < k
    · rw [if_pos h1, if_pos h1, if_pos (by omega), g1]
      grind
    · rw [if_neg h1, if_neg h1]
      by_cases h2 : i = k
      · subst h2
        rw [if_pos (by omega), g1]
        grind
      · rw [if_neg (by omega)]
        have := GI_step (j := j) (show k < n by omega) hi h2 hd'
        rw [g1] at this ⊢
        grind
/-- above 0 but at nothing -/
def PD (n : Nat) (T : Mx) : Prop := ∀ x : Nat → Int, (∃ i, i < n ∧ x i ≠ 0) → 0 < sm n (fun i => x i * sm n (fun j => T i j * x j))
theorem det_pos (hT : PD n T) : ∀ k, k ≤ n → 0 < det k T := by
  have main : ∀ k, k ≤ n → ∀ t, t ≤ k → 0 < det t T := by
    intro k
    induction k with
    | zero => intro _ t ht; have : t = 0 := by omega
              subst this; exact (by decide : (0 : Int) < 1)
    | succ k ih =>
      intro hk t ht
      by_cases e : t ≤ k
      · exact ih (by omega) t e
      · have : t = k + 1 := by omega
        subst this
        have hd : ∀ t, t ≤ k → 0 < det t T := ih (by omega)
        have hk0 := hd k (Nat.le_refl _)
        have p := hT (fun c => if c < k then - GI n T k c k else if c = k then det k T else 0) ⟨k, by omega, by rw [if_neg (by omega), if_pos rfl]; omega⟩
        have ax : ∀ i, i < n → sm n (fun j => T i j * (if j < k then - GI n T k j k else if j = k then det k T else 0)) = SC n T k i k := fun i hi => by
          rw [sm_cut (k := k + 1) (by omega) (fun j _ hj => by rw [if_neg (by omega), if_neg (by omega), Int.mul_zero])]
          show sm k _ + T i k * (if k < k then _ else if k = k then det k T else 0) = _
          rw [if_neg (by omega), if_pos rfl]
          have e1 : sm k (fun j => T i j * (if j < k then - GI n T k j k else if j = k then det k T else 0)) = sm k (fun j => - (T i j * GI n T k j k)) := sm_congr (fun j hj => by rw [if_pos hj]; grind)
          rw [e1, sm_neg, schur k (by omega) (fun t ht => by have := hd t (by omega); omega) hi (Nat.le_refl _)]
          grind
        rw [sm_congr (g := fun i => (if i < k then - GI n T k i k else if i = k then det k T else 0) * SC n T k i k) (fun i hi => by rw [ax i hi])] at p
        rw [sm_one (p := k) (by omega) (fun i hi hn => by
          by_cases h1 : i < k
          · unfold SC; rw [if_pos h1, if_pos h1, Int.mul_zero]
          · rw [if_neg h1, if_neg hn, Int.zero_mul])] at p
        unfold SC at p
        rw [if_neg (Nat.lt_irrefl k), if_pos rfl, if_neg (Nat.lt_irrefl k), GI_kk (by omega)] at p
        exact Int.lt_of_mul_lt_mul_left (a := det k T) (by rw [Int.mul_zero]; exact p) (Int.le_of_lt hk0)
  exact fun k hk => main k hk k (Nat.le_refl _)
theorem gj_solves (hT : PD n T) (hi : i < n) (hj : n ≤ j) : sm n (fun c => T i c * GI n T n c j) = det n T * T i j := by
  rw [schur n (Nat.le_refl _) (fun t ht => by have := det_pos hT t (by omega); omega) hi hj]
  unfold SC
  rw [if_pos hi, Int.sub_zero]
theorem pd_uniq (hT : PD n T) {x y : Nat → Int} (h : ∀ i, i < n → sm n (fun c => T i c * x c) = sm n (fun c => T i c * y c)) : ∀ c, c < n → x c = y c := by
  intro c hc
  by_cases e : x c = y c
  · exact e
  · exfalso
    have p := hT (fun c => x c - y c) ⟨c, hc, by omega⟩
    rw [sm_zero (fun i hi => by
      rw [sm_congr (g := fun j => T i j * x j - T i j * y j) (fun j _ => by grind), sm_sub, h i hi]
      grind)] at p
    omega
theorem det_le (hT : PD n T) (hs : ∀ i j, i < n → j < n → T i j = T j i) (hk : k < n) : det (k + 1) T ≤ det k T * T k k := by
  have hd : ∀ t, t ≤ n → 0 < det t T := det_pos hT
  have hn : ∀ t, t < k → det t T ≠ 0 := fun t ht => by have := hd t (by omega); omega
  have e := schur k (i := k) (j := k) (by omega) hn hk (Nat.le_refl _)
  unfold SC at e
  rw [if_neg (by omega), GI_kk hk] at e
  suffices q : 0 ≤ sm k (fun c => T k c * GI n T k c k) by omega
  have ge : 0 ≤ det k T * sm k (fun c => T k c * GI n T k c k) := by
    have f : sm n (fun i => (if i < k then GI n T k i k else 0) * sm n (fun j => T i j * (if j < k then GI n T k j k else 0))) = det k T * sm k (fun c => T k c * GI n T k c k) := by
      rw [sm_cut (k := k) (by omega) (fun i _ hi => by rw [if_neg (by omega), Int.zero_mul]), ← sm_mul]
      refine sm_congr (fun i hi => ?_)
      rw [if_pos hi, sm_cut (k := k) (by omega) (fun j _ hj => by rw [if_neg (by omega), Int.mul_zero]), sm_congr (g := fun j => T i j * GI n T k j k) (fun j hj => by rw [if_pos hj]), schur k (by omega) hn (by omega) (Nat.le_refl _)]
      unfold SC
      rw [if_pos hi, hs i k (by omega) hk]
      grind
    rw [← f]
    by_cases z : ∃ i, i < n ∧ (fun i => if i < k then GI n T k i k else 0) i ≠ 0
    · exact Int.le_of_lt (hT _ z)
    · rw [sm_zero (fun i hi => by
        have : (if i < k then GI n T k i k else 0) = 0 := Decidable.byContradiction (fun w => z ⟨i, hi, w⟩)
        rw [this, Int.zero_mul])]
      exact Int.le_refl _
  have := hd k (by omega)
  exact Int.nonneg_of_mul_nonneg_right ge this
end
