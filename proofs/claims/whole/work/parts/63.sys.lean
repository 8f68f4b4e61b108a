/-! Lines as a system: weights we, what a line takes of each sought height c, what it is told g. -/
def dt (n : Nat) (c x : Nat → Int) : Int := sm n (fun i => c i * x i)
def Am (m : Nat) (we : Nat → Int) (c : Nat → Nat → Int) (i j : Nat) : Int := sm m (fun l => we l * c l i * c l j)
def bV (m : Nat) (we g : Nat → Int) (c : Nat → Nat → Int) (i : Nat) : Int := sm m (fun l => we l * c l i * g l)
theorem sm_nn {n : Nat} {f : Nat → Int} (h : ∀ i, i < n → 0 ≤ f i) : 0 ≤ sm n f := by
  induction n with
  | zero => exact Int.le_refl _
  | succ n ih =>
    have := ih (fun i hi => h i (by omega))
    have := h n (by omega)
    show 0 ≤ sm n f + f n
    omega
theorem sm_ge {n p : Nat} {f : Nat → Int} (h : ∀ i, i < n → 0 ≤ f i) (hp : p < n) : f p ≤ sm n f := by
  induction n with
  | zero => omega
  | succ n ih =>
    have h1 := h n (by omega)
    have h2 := sm_nn (n := n) (f := f) (fun i hi => h i (by omega))
    show f p ≤ sm n f + f n
    by_cases e : p = n
    · subst e; omega
    · have := ih (fun i hi => h i (by omega)) (by omega)
      omega
section
variable {n m : Nat} {we g : Nat → Int} {c : Nat → Nat → Int}
theorem Am_sym {i j : Nat} : Am m we c i j = Am m we c j i := sm_congr (fun l _ => by grind)
theorem dt_comm {n : Nat} {x y : Nat → Int} : dt n x y = dt n y x := sm_congr (fun i _ => Int.mul_comm _ _)
theorem Am_x {i : Nat} {x : Nat → Int} : sm n (fun j => Am m we c i j * x j) = sm m (fun l => we l * c l i * dt n (c l) x) := by
  rw [sm_congr (g := fun j => sm m (fun l => we l * c l i * c l j * x j)) (fun j _ => by unfold Am; rw [← sm_mulr]), sm_swap]
  refine sm_congr (fun l _ => ?_)
  unfold dt
  rw [← sm_mul]
  exact sm_congr (fun j _ => by grind)
theorem Am_xx {x : Nat → Int} : sm n (fun i => x i * sm n (fun j => Am m we c i j * x j)) = sm m (fun l => we l * (dt n (c l) x * dt n (c l) x)) := by
  rw [sm_congr (g := fun i => sm m (fun l => x i * (we l * c l i * dt n (c l) x))) (fun i _ => by rw [Am_x, sm_mul]), sm_swap]
  refine sm_congr (fun l _ => ?_)
  have : we l * (dt n (c l) x * dt n (c l) x) = (we l * dt n (c l) x) * sm n (fun i => c l i * x i) := by unfold dt; grind
  rw [this, ← sm_mul]
  exact sm_congr (fun i _ => by grind)
def sepd (n m : Nat) (we : Nat → Int) (c : Nat → Nat → Int) : Prop := (∀ l, l < m → 0 ≤ we l) ∧ ∀ x : Nat → Int, (∀ l, l < m → we l ≠ 0 → dt n (c l) x = 0) → ∀ i, i < n → x i = 0
theorem sq_nn (a : Int) : 0 ≤ a * a := by
  rcases Int.le_total 0 a with h | h
  · exact Int.mul_nonneg h h
  · exact Int.mul_nonneg_of_nonpos_of_nonpos h h
theorem Am_PD {T : Mx} (hs : sepd n m we c) (hT : ∀ i j, i < n → j < n → T i j = Am m we c i j) : PD n T := by
  intro x hx
  have e : sm n (fun i => x i * sm n (fun j => T i j * x j)) = sm m (fun l => we l * (dt n (c l) x * dt n (c l) x)) := by
    rw [← Am_xx]
    exact sm_congr (fun i hi => by rw [sm_congr (fun j hj => by rw [hT i j hi hj])])
  rw [e]
  have nn : ∀ l, l < m → 0 ≤ we l * (dt n (c l) x * dt n (c l) x) := fun l hl => Int.mul_nonneg (hs.1 l hl) (sq_nn _)
  have h0 := sm_nn nn
  rcases Int.lt_or_eq_of_le h0 with h | h
  · exact h
  · exfalso
    obtain ⟨i, hi, hxi⟩ := hx
    refine hxi (hs.2 x (fun l hl hw => ?_) i hi)
    have h1 := sm_ge nn hl
    have h2 := nn l hl
    have h3 : we l * (dt n (c l) x * dt n (c l) x) = 0 := by omega
    rcases Int.mul_eq_zero.mp h3 with z | z
    · exact absurd z hw
    · rcases Int.mul_eq_zero.mp z with y | y <;> exact y
/-- y solves for X -/
def sol (n m : Nat) (we : Nat → Int) (c : Nat → Nat → Int) (d : Int) (y X : Nat → Int) : Prop := ∀ i, i < n → sm n (fun j => Am m we c i j * y j) = d * X i
theorem sol_uq (hs : sepd n m we c) {d : Int} {x y X : Nat → Int} (h1 : sol n m we c d x X) (h2 : sol n m we c d y X) : ∀ i, i < n → x i = y i :=
  pd_uniq (Am_PD (T := Am m we c) hs (fun _ _ _ _ => rfl)) (fun i hi => by rw [h1 i hi, h2 i hi])
theorem sol_cmb {d a b : Int} {x y X Y : Nat → Int} (h1 : sol n m we c d x X) (h2 : sol n m we c d y Y) : sol n m we c d (fun i => a * x i + b * y i) (fun i => a * X i + b * Y i) := by
  intro i hi
  rw [sm_congr (g := fun j => a * (Am m we c i j * x j) + b * (Am m we c i j * y j)) (fun j _ => by grind), sm_add, sm_mul, sm_mul, h1 i hi, h2 i hi]
  grind
theorem gj_sol (hs : sepd n m we c) {T : Mx} (hT : ∀ i j, i < n → j < n → T i j = Am m we c i j) {j : Nat} (hj : n ≤ j) : sol n m we c (det n T) (fun i => GI n T n i j) (fun i => T i j) := by
  intro i hi
  rw [← gj_solves (Am_PD hs hT) hi hj]
  exact sm_congr (fun k hk => by rw [hT i k hi hk])
/-- turned about -/
theorem sol_sym {d : Int} {x y X Y : Nat → Int} (h1 : sol n m we c d x X) (h2 : sol n m we c d y Y) : d * dt n X y = d * dt n Y x := by
  have e1 : sm n (fun i => y i * sm n (fun j => Am m we c i j * x j)) = d * dt n X y := by
    unfold dt
    rw [← sm_mul]
    exact sm_congr (fun i hi => by rw [h1 i hi]; grind)
  have e2 : sm n (fun i => x i * sm n (fun j => Am m we c i j * y j)) = d * dt n Y x := by
    unfold dt
    rw [← sm_mul]
    exact sm_congr (fun i hi => by rw [h2 i hi]; grind)
  rw [← e1, ← e2]
  have q1 : sm n (fun i => y i * sm n (fun j => Am m we c i j * x j)) = sm n (fun i => sm n (fun j => y i * Am m we c i j * x j)) := sm_congr (fun i _ => by rw [← sm_mul]; exact sm_congr (fun j _ => by grind))
  have q2 : sm n (fun i => x i * sm n (fun j => Am m we c i j * y j)) = sm n (fun i => sm n (fun j => y j * Am m we c j i * x i)) := sm_congr (fun i _ => by rw [← sm_mul]; exact sm_congr (fun j _ => by rw [Am_sym]; grind))
  rw [q1, q2, sm_swap]
/-! off -/
theorem off_orth {d : Int} {y : Nat → Int} (h : sol n m we c d y (bV m we g c)) {i : Nat} (hi : i < n) : sm m (fun l => we l * c l i * (dt n (c l) y - d * g l)) = 0 := by
  have e := h i hi
  rw [Am_x] at e
  rw [sm_congr (g := fun l => we l * c l i * dt n (c l) y - d * (we l * c l i * g l)) (fun l _ => by grind), sm_sub, e, sm_mul]
  unfold bV
  grind
theorem off_sum {d : Int} {y : Nat → Int} (h : sol n m we c d y (bV m we g c)) : sm m (fun l => we l * ((dt n (c l) y - d * g l) * (dt n (c l) y - d * g l))) = d * sm m (fun l => we l * (dt n (c l) y - d * g l) * (- g l)) := by
  have z : sm m (fun l => we l * (dt n (c l) y - d * g l) * dt n (c l) y) = 0 := by
    rw [sm_congr (g := fun l => sm n (fun i => y i * (we l * c l i * (dt n (c l) y - d * g l)))) (fun l _ => by
      have : we l * (dt n (c l) y - d * g l) * dt n (c l) y = (we l * (dt n (c l) y - d * g l)) * sm n (fun i => c l i * y i) := rfl
      rw [this, ← sm_mul]
      exact sm_congr (fun i _ => by grind)), sm_swap]
    exact sm_zero (fun i hi => by rw [sm_mul, off_orth h hi, Int.mul_zero])
  rw [← sm_mul]
  have : sm m (fun l => we l * ((dt n (c l) y - d * g l) * (dt n (c l) y - d * g l))) = sm m (fun l => we l * (dt n (c l) y - d * g l) * dt n (c l) y) + sm m (fun l => d * (we l * (dt n (c l) y - d * g l) * (- g l))) := by
    rw [← sm_add]
    exact sm_congr (fun l _ => by grind)
  rw [this, z, Int.zero_add]
/-- no heights do better than those that solve -/
theorem off_least (hw : ∀ l, l < m → 0 ≤ we l) {d : Int} {y : Nat → Int} (h : sol n m we c d y (bV m we g c)) (hd : 0 < d) : sm m (fun l => we l * ((dt n (c l) y - d * g l) * (dt n (c l) y - d * g l))) ≤ d * d * sm m (fun l => we l * (g l * g l)) := by
  have e := off_sum h
  -- S = d * sum we off (-g); sum we (off + d g)^2 >= 0
  have nn : 0 ≤ sm m (fun l => we l * (dt n (c l) y * dt n (c l) y)) := sm_nn (fun l hl => Int.mul_nonneg (hw l hl) (sq_nn _))
  have q : sm m (fun l => we l * (dt n (c l) y * dt n (c l) y)) = sm m (fun l => we l * ((dt n (c l) y - d * g l) * (dt n (c l) y - d * g l))) + (2 * d * sm m (fun l => we l * (dt n (c l) y - d * g l) * g l) + d * d * sm m (fun l => we l * (g l * g l))) := by
    rw [← sm_mul, ← sm_mul, ← sm_add, ← sm_add]
    exact sm_congr (fun l _ => by grind)
  have e2 : sm m (fun l => we l * (dt n (c l) y - d * g l) * (- g l)) = - sm m (fun l => we l * (dt n (c l) y - d * g l) * g l) := by
    rw [← sm_neg]
    exact sm_congr (fun l _ => by grind)
  rw [e2] at e
  rw [q] at nn
  have e3 : 2 * d * sm m (fun l => we l * (dt n (c l) y - d * g l) * g l) = - 2 * sm m (fun l => we l * ((dt n (c l) y - d * g l) * (dt n (c l) y - d * g l))) := by rw [e]; grind
  rw [e3] at nn
  omega
/-! a line left out -/
def wo (we : Nat → Int) (k : Nat) : Nat → Int := fun l => if l = k then 0 else we l
theorem wo_sm {f : Nat → Int} {k : Nat} (hk : k < m) : sm m (fun l => wo we k l * f l) = sm m (fun l => we l * f l) - we k * f k := by
  have : sm m (fun l => we l * f l) - sm m (fun l => wo we k l * f l) = we k * f k := by
    rw [← sm_sub, sm_one (p := k) hk (fun i hi hn => by unfold wo; rw [if_neg hn]; omega)]
    unfold wo
    rw [if_pos rfl]
    omega
  omega
theorem wo_Ax {k i : Nat} (hk : k < m) {x : Nat → Int} : sm n (fun j => Am m (wo we k) c i j * x j) = sm n (fun j => Am m we c i j * x j) - we k * c k i * dt n (c k) x := by
  rw [Am_x, Am_x, sm_congr (g := fun l => wo we k l * (c l i * dt n (c l) x)) (fun l _ => by grind), wo_sm hk, sm_congr (g := fun l => we l * c l i * dt n (c l) x) (fun l _ => by grind)]
  grind
theorem wo_b {k i : Nat} (hk : k < m) : bV m (wo we k) g c i = bV m we g c i - we k * c k i * g k := by
  unfold bV
  rw [sm_congr (g := fun l => wo we k l * (c l i * g l)) (fun l _ => by grind), wo_sm hk, sm_congr (g := fun l => we l * c l i * g l) (fun l _ => by grind)]
  grind
/-- what a line is off by all others, from what it is off and its doubt u -/
theorem off_wo (hs : sepd n m we c) {k : Nat} (hk : k < m) {d d' : Int} {y y' u : Nat → Int} (h : sol n m we c d y (bV m we g c)) (h' : sol n m (wo we k) c d' y' (bV m (wo we k) g c)) (hu : sol n m we c d u (c k)) :
    (dt n (c k) y' - d' * g k) * (d - we k * dt n (c k) u) = d' * (dt n (c k) y - d * g k) := by
  have e : ∀ i, i < n → d * y' i = d' * y i + we k * (dt n (c k) y' - d' * g k) * u i := by
    refine pd_uniq (Am_PD (T := Am m we c) hs (fun _ _ _ _ => rfl)) (fun i hi => ?_)
    have a1 := h' i hi
    rw [wo_Ax hk, wo_b hk] at a1
    have a2 := h i hi
    have a3 := hu i hi
    rw [sm_congr (g := fun j => d * (Am m we c i j * y' j)) (fun j _ => by grind), sm_mul]
    rw [sm_congr (f := fun j => Am m we c i j * (d' * y j + we k * (dt n (c k) y' - d' * g k) * u j)) (g := fun j => d' * (Am m we c i j * y j) + (we k * (dt n (c k) y' - d' * g k)) * (Am m we c i j * u j)) (fun j _ => by grind), sm_add, sm_mul, sm_mul, a2, a3]
    have a4 : sm n (fun j => Am m we c i j * y' j) = d' * (bV m we g c i - we k * c k i * g k) + we k * c k i * dt n (c k) y' := by omega
    rw [a4]
    grind
  have f : d * dt n (c k) y' = d' * dt n (c k) y + we k * (dt n (c k) y' - d' * g k) * dt n (c k) u := by
    have : d * dt n (c k) y' = sm n (fun i => c k i * (d * y' i)) := by unfold dt; rw [← sm_mul]; exact sm_congr (fun i _ => by grind)
    rw [this, sm_congr (g := fun i => d' * (c k i * y i) + (we k * (dt n (c k) y' - d' * g k)) * (c k i * u i)) (fun i hi => by rw [e i hi]; grind), sm_add, sm_mul, sm_mul]
    rfl
  grind
/-- the check of a line is between 0 and d; it is not 0 where the others do without it -/
theorem chk_nn (hs : sepd n m we c) {k : Nat} (hk : k < m) {d : Int} {u : Nat → Int} (hd : 0 < d) (hu : sol n m we c d u (c k)) : 0 ≤ dt n (c k) u ∧ 0 ≤ d - we k * dt n (c k) u := by
  have e : d * dt n (c k) u = sm m (fun l => we l * (dt n (c l) u * dt n (c l) u)) := by
    rw [← Am_xx]
    unfold dt
    rw [← sm_mul]
    exact sm_congr (fun i hi => by rw [hu i hi]; grind)
  have nn : ∀ l, l < m → 0 ≤ we l * (dt n (c l) u * dt n (c l) u) := fun l hl => Int.mul_nonneg (hs.1 l hl) (sq_nn _)
  have h1 := sm_nn nn
  have h2 := sm_ge nn hk
  rw [← e] at h1 h2
  have h3 : 0 ≤ dt n (c k) u := Int.nonneg_of_mul_nonneg_right h1 hd
  refine ⟨h3, ?_⟩
  rcases Int.lt_or_eq_of_le h3 with z | z
  · have : 0 ≤ (d - we k * dt n (c k) u) * dt n (c k) u := by
      have : (d - we k * dt n (c k) u) * dt n (c k) u = d * dt n (c k) u - we k * (dt n (c k) u * dt n (c k) u) := by grind
      omega
    exact Int.nonneg_of_mul_nonneg_left this z
  · rw [← z]; omega
theorem chk_ne {k : Nat} (hs' : sepd n m (wo we k) c) (hk : k < m) {d : Int} {u : Nat → Int} (hd : 0 < d) (hu : sol n m we c d u (c k)) : d - we k * dt n (c k) u ≠ 0 := by
  intro z
  have u0 : ∀ i, i < n → u i = 0 := pd_uniq (Am_PD (T := Am m (wo we k) c) hs' (fun _ _ _ _ => rfl)) (y := fun _ => 0) (fun i hi => by
    rw [wo_Ax hk, hu i hi, sm_zero (f := fun j => Am m (wo we k) c i j * 0) (fun j _ => Int.mul_zero _)]
    have : d = we k * dt n (c k) u := by omega
    calc d * c k i - we k * c k i * dt n (c k) u = (d - we k * dt n (c k) u) * c k i := by grind
      _ = 0 := by rw [z, Int.zero_mul])
  have : dt n (c k) u = 0 := sm_zero (fun i hi => by rw [u0 i hi, Int.mul_zero])
  rw [this] at z
  omega
/-- a line that parts its net has no check -/
theorem chk_bridge (hs : sepd n m we c) {k : Nat} (hk : k < m) {d s : Int} {u x : Nat → Int} (hu : sol n m we c d u (c k)) (hx : ∀ l, l < m → l ≠ k → we l ≠ 0 → dt n (c l) x = 0) (hsx : dt n (c k) x = s) (hs0 : s ≠ 0) : d - we k * dt n (c k) u = 0 := by
  have e : ∀ i, i < n → d * x i = we k * s * u i := by
    refine pd_uniq (Am_PD (T := Am m we c) hs (fun _ _ _ _ => rfl)) (fun i hi => ?_)
    rw [sm_congr (g := fun j => d * (Am m we c i j * x j)) (fun j _ => by grind), sm_mul, sm_congr (f := fun j => Am m we c i j * (we k * s * u j)) (g := fun j => (we k * s) * (Am m we c i j * u j)) (fun j _ => by grind), sm_mul, hu i hi, Am_x]
    rw [sm_one (p := k) hk (fun l hl hn => by
      by_cases w0 : we l = 0
      · rw [w0, Int.zero_mul, Int.zero_mul]
      · rw [hx l hl hn w0, Int.mul_zero]), hsx]
    grind
  have f : d * dt n (c k) x = we k * s * dt n (c k) u := by
    unfold dt
    rw [← sm_mul, ← sm_mul]
    exact sm_congr (fun i hi => by have := e i hi; grind)
  rw [hsx] at f
  apply Int.eq_of_mul_eq_mul_left hs0
  grind
end
