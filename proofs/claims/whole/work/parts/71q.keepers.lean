/-! PURE PART: maps that keep, counted -/
def ALLk (n : Nat) (g : Nat → Int) (s : Nat → Nat) : Prop := ∀ x, x < n → ∀ b, b < x → s b ≠ s x ∧ g (5 * s b + s x) = g (5 * b + x)
def PLc (p P : Nat) (pl : Nat → Nat) : Prop := P < 8 ^ p ∧ ∀ b, b < p → P / 8 ^ b % 8 = pl b
theorem p8 : ∀ b : Fin 6, 2 ^ (3 * b.val) = 8 ^ b.val := by decide
theorem PL_at {p P b : Nat} {pl : Nat → Nat} (hp : p ≤ 5) (H : PLc p P pl) (hb : b < p) (hP : P < 32768) : andI (shrI P ((3 * b : Nat) : Int)) 7 = (pl b : Int) := by
  have l : P >>> (3 * b) ≤ P := Nat.shiftRight_le P _
  rw [shr_nat (by omega) (by omega), show (7 : Int) = ((7 : Nat) : Int) from rfl, and_nat (by omega) (by omega), show (7 : Nat) = 2 ^ 3 - 1 from rfl, Nat.and_two_pow_sub_one_eq_mod, Nat.shiftRight_eq_div_pow, show 2 ^ (3 * b) = 8 ^ b from p8 ⟨b, by omega⟩]
  exact congrArg Nat.cast (H.2 b hb)
theorem PL_s {p P t : Nat} {pl : Nat → Nat} (hp : p < 5) (ht : t < 8) (H : PLc p P pl) : orI P (shlI t ((3 * p : Nat) : Int)) = ((P + t * 8 ^ p : Nat) : Int) ∧ P + t * 8 ^ p < 32768 ∧ PLc (p + 1) (P + t * 8 ^ p) (fun x => if x = p then t else pl x) := by
  have e8 : 2 ^ (3 * p) = 8 ^ p := p8 ⟨p, by omega⟩
  have h1 := H.1
  have lim : 8 ^ p ≤ 8 ^ 4 := Nat.pow_le_pow_right (by omega) (by omega)
  have lt' : t * 8 ^ p ≤ 7 * 8 ^ p := Nat.mul_le_mul_right _ (by omega)
  have sh : t <<< (3 * p) = t * 8 ^ p := by rw [Nat.shiftLeft_eq, e8]
  refine ⟨?_, by omega, ?_, ?_⟩
  · rw [shl_nat (by omega) (by omega) (by rw [sh]; omega), or_nat (by omega) (by rw [sh]; omega), Nat.or_comm, ← Nat.shiftLeft_add_eq_or_of_lt (by rw [e8]; exact h1), sh, Nat.add_comm]
  · rw [Nat.pow_succ]
    omega
  · intro b hb
    show (P + t * 8 ^ p) / 8 ^ b % 8 = if b = p then t else pl b
    have hh := H.2
    have pc : p = 0 ∨ p = 1 ∨ p = 2 ∨ p = 3 ∨ p = 4 := by omega
    by_cases e : b = p
    · rw [if_pos e, e, Nat.add_mul_div_right _ _ (Nat.pow_pos (by omega)), Nat.div_eq_of_lt h1]
      omega
    · rw [if_neg e, ← hh b (by omega)]
      have : p = b + 1 + (p - b - 1) := by omega
      rw [this, Nat.pow_add, Nat.pow_succ, show t * (8 ^ b * 8 * 8 ^ (p - b - 1)) = (t * 8 ^ (p - b - 1) * 8) * 8 ^ b by ac_rfl, Nat.add_mul_div_right _ _ (Nat.pow_pos (by omega))]
      omega
theorem mayGo_X4 {n p t P : Nat} {g : Nat → Int} {pl : Nat → Nat} (h5 : n ≤ 5) (tg : Tb g) (hp : p < n) (ht : t < n) (hP : P < 32768) (H : PLc p P pl) (hl : ∀ b, b < p → pl b < n) : wp (f_X4_mayGo p t P n g) (fun r => bI r (∀ b, b < p → pl b ≠ t ∧ g (5 * pl b + t) = g (5 * b + p))) := by
  unfold f_X4_mayGo
  refine w_q1 (fun k v => v = (k : Int) ∧ ∀ b, b < k → pl b ≠ t ∧ g (5 * pl b + t) = g (5 * b + p)) p 0 ⟨rfl, fa_0⟩ (by omega) (by omega) (fun k hk v hI nx hn => ?_) (fun v hI nx => ?_)
  · obtain ⟨rfl, t1⟩ := hI
    refine w_ltT (by omega) ?_
    refine w_lz ?_
    have lk := hl k hk
    rw [show (3 * (k : Int)) = ((3 * k : Nat) : Int) by omega, PL_at (by omega) H hk hP]
    refine w_j ?_
    refine w_eq (by omega) (fun c => w_s (bI_0 (fun q => (q k hk).1 (by omega)))) (fun c => ?_)
    refine w_gap tg (by omega) (fun r1 e1 l1 u1 => ?_)
    refine w_gap tg (by omega) (fun r2 e2 l2 u2 => ?_)
    refine w_eq (by omega) (fun c2 => hn _ ⟨by omega, fa_s t1 ⟨by omega, by omega⟩⟩) (fun c2 => w_s (bI_0 (fun q => c2 (by have := (q k hk).2; omega))))
  · obtain ⟨rfl, t1⟩ := hI
    refine w_ltF (by omega) ?_
    exact w_s (bI_1 t1)
/-- all ways to go on from the first p points -/
noncomputable def SR (n : Nat) (g : Nat → Int) : Nat → Nat → (Nat → Nat) → Int
  | 0, _, pl => ind (ALLk n g pl)
  | r + 1, p, pl => sm (fun t => SR n g r (p + 1) (fun x => if x = p then t else pl x)) n
theorem SR_0 {n : Nat} {g : Nat → Int} : ∀ (r p : Nat) (pl : Nat → Nat), p + r = n → (∃ x b, x < p ∧ b < x ∧ ¬ (pl b ≠ pl x ∧ g (5 * pl b + pl x) = g (5 * b + x))) → SR n g r p pl = 0
  | 0, p, pl, e, ⟨x, b, hx, hb, no⟩ => ind_f (fun q => no (q x (by omega) b hb))
  | r + 1, p, pl, e, ⟨x, b, hx, hb, no⟩ => sm_z n (fun t _ => SR_0 r (p + 1) _ (by omega) ⟨x, b, by omega, hb, by
      show ¬ ((if b = p then t else pl b) ≠ (if x = p then t else pl x) ∧ g (5 * (if b = p then t else pl b) + (if x = p then t else pl x)) = g (5 * b + x))
      rw [if_neg (by omega), if_neg (by omega)]
      exact no⟩)
theorem keepW_X4 {n : Nat} {g : Nat → Int} (h5 : n ≤ 5) (tg : Tb g) : ∀ (r dd p P : Nat) (pl : Nat → Nat), p + r = n → r < dd → P < 32768 → PLc p P pl → (∀ b, b < p → pl b < n) → (∀ x, x < p → ∀ b, b < x → pl b ≠ pl x ∧ g (5 * pl b + pl x) = g (5 * b + x)) → f_X4_keepersWith dd p P n g = some (SR n g r p pl)
  | r, 0, p, P, pl, e, h, hP, H, hl, ok => absurd h (Nat.not_lt_zero _)
  | 0, dd + 1, p, P, pl, e, h, hP, H, hl, ok => by
    refine wp_e ?_
    unfold f_X4_keepersWith
    refine w_ltF (by omega) ?_
    refine w_s ?_
    have : p = n := by omega
    subst this
    exact (ind_t ok).symm
  | r + 1, dd + 1, p, P, pl, e, h, hP, H, hl, ok => by
    refine wp_e ?_
    unfold f_X4_keepersWith
    refine w_ltT (by omega) ?_
    refine w_q2 (fun k u v => v = (k : Int) ∧ u = sm (fun t => SR n g r (p + 1) (fun x => if x = p then t else pl x)) k) n 0 ⟨rfl, rfl⟩ (by omega) (by omega) (fun k hk u v hI nx hn => ?_) (fun u v hI nx => ?_)
    · obtain ⟨rfl, t1⟩ := hI
      have ss := sm_s (fun t => SR n g r (p + 1) (fun x => if x = p then t else pl x)) k
      refine w_ltT (by omega) ?_
      refine w_b1 (mayGo_X4 h5 tg (by omega) hk hP H hl) (fun m hm => ?_)
      refine w_j ?_
      refine w_bI hm (fun no _ => ?_) (fun yes _ => ?_)
      · refine hn _ _ ⟨by omega, ?_⟩
        have ⟨b, b1⟩ := Classical.not_forall.mp no
        have ⟨b2, b3⟩ := Classical.not_imp.mp b1
        have z : SR n g r (p + 1) (fun x => if x = p then k else pl x) = 0 := SR_0 r (p + 1) _ (by omega) ⟨p, b, by omega, b2, by
          show ¬ ((if b = p then k else pl b) ≠ (if p = p then k else pl p) ∧ g (5 * (if b = p then k else pl b) + (if p = p then k else pl p)) = g (5 * b + p))
          rw [if_neg (by omega), if_pos rfl]
          exact b3⟩
        rw [ss, z, t1]
        omega
      · have ps := PL_s (p := p) (P := P) (t := k) (by omega) (by omega) H
        have rk := keepW_X4 h5 tg r dd (p + 1) (P + k * 8 ^ p) (fun x => if x = p then k else pl x) (by omega) (by omega) ps.2.1 ps.2.2 (fun b hb => by
          show (if b = p then k else pl b) < n
          by_cases q : b = p
          · rw [if_pos q]
            exact hk
          · rw [if_neg q]
            exact hl b (by omega)) (fun x hx b hb => by
          show (if b = p then k else pl b) ≠ (if x = p then k else pl x) ∧ g (5 * (if b = p then k else pl b) + (if x = p then k else pl x)) = g (5 * b + x)
          rw [if_neg (show ¬ b = p by omega)]
          by_cases q : x = p
          · rw [if_pos q, q]
            exact yes b (by omega)
          · rw [if_neg q]
            exact ok x (by omega) b hb)
        rw [show (3 * (p : Int)) = ((3 * p : Nat) : Int) by omega, ps.1, show (p : Int) + 1 = ((p + 1 : Nat) : Int) by omega]
        refine w_b1s rk ?_
        refine w_lz ?_
        exact hn _ _ ⟨by omega, by rw [ss, t1]⟩
    · obtain ⟨rfl, t1⟩ := hI
      refine w_ltF (by omega) ?_
      exact w_s t1
theorem keepers_X4 {n : Nat} {g : Nat → Int} (h3 : 3 ≤ n) (h5 : n ≤ 5) (tg : Tb g) : f_X4_keepers n g = some (SR n g n 0 (fun _ => 0)) := by
  refine wp_e ?_
  unfold f_X4_keepers
  refine w_b1s (keepW_X4 h5 tg n 8 0 0 (fun _ => 0) (by omega) (by omega) (by omega) ⟨by decide, fa_0⟩ fa_0 fa_0) ?_
  exact w_s rfl
theorem sm_add (f f' : Nat → Int) : ∀ n, sm (fun i => f i + f' i) n = sm f n + sm f' n
  | 0 => rfl
  | n + 1 => by
    rw [sm_s, sm_s, sm_s, sm_add f f' n]
    omega
theorem sm_swap (f : Nat → Nat → Int) (m : Nat) : ∀ n, sm (fun i => sm (fun j => f i j) m) n = sm (fun j => sm (fun i => f i j) n) m
  | 0 => (sm_z m (fun _ _ => rfl)).symm
  | n + 1 => by
    rw [sm_s, sm_swap f m n, ← sm_add]
    rfl
theorem sm_app (f : Nat → Int) (a : Nat) : ∀ b, sm f (a + b) = sm f a + sm (fun j => f (a + j)) b
  | 0 => by
    show sm f a = sm f a + 0
    omega
  | b + 1 => by
    show sm f (a + b) + f (a + b) = sm f a + (sm (fun j => f (a + j)) b + f (a + b))
    rw [sm_app f a b]
    omega
theorem sm_mul (f : Nat → Int) (n : Nat) : ∀ m, sm f (m * n) = sm (fun i => sm (fun j => f (i * n + j)) n) m
  | 0 => by rw [Nat.zero_mul]; rfl
  | m + 1 => by
    rw [Nat.succ_mul, sm_app, sm_mul f n m]
    rfl
def ext (n p : Nat) (pl : Nat → Nat) (o x : Nat) : Nat := if x < p then pl x else nxt n o (x - p)
theorem ALL_c {n : Nat} {g : Nat → Int} {s s' : Nat → Nat} (e : ∀ x, x < n → s x = s' x) : ALLk n g s ↔ ALLk n g s' := by
  constructor
  · intro h x hx b hb
    have := h x hx b hb
    rw [e x hx, e b (by omega)] at this
    exact this
  · intro h x hx b hb
    have := h x hx b hb
    rw [← e x hx, ← e b (by omega)] at this
    exact this
theorem SR_sum {n : Nat} {g : Nat → Int} (h0 : 0 < n) : ∀ (r p : Nat) (pl : Nat → Nat), p + r = n → SR n g r p pl = sm (fun o => ind (ALLk n g (ext n p pl o))) (n ^ r)
  | 0, p, pl, e => by
    show ind (ALLk n g pl) = 0 + ind (ALLk n g (ext n p pl 0))
    rw [Int.zero_add]
    exact ind_c (ALL_c (fun x hx => (if_pos (show x < p by omega)).symm))
  | r + 1, p, pl, e => by
    rw [Nat.pow_succ, sm_mul, sm_swap]
    refine sm_c n (fun t ht => ?_)
    show SR n g r (p + 1) (fun x => if x = p then t else pl x) = _
    rw [SR_sum h0 r (p + 1) _ (by omega)]
    refine sm_c _ (fun q hq => ind_c (ALL_c (fun x hx => ?_)))
    show (if x < p + 1 then (if x = p then t else pl x) else q / n ^ (x - (p + 1)) % n) = if x < p then pl x else (q * n + t) / n ^ (x - p) % n
    by_cases c : x < p
    · rw [if_pos (show x < p + 1 by omega), if_pos c, if_neg (show ¬ x = p by omega)]
    · by_cases c2 : x = p
      · rw [if_pos (show x < p + 1 by omega), if_pos c2, if_neg c, c2, Nat.sub_self, Nat.pow_zero, Nat.div_one, Nat.mul_comm, Nat.mul_add_mod, Nat.mod_eq_of_lt ht]
      · rw [if_neg (show ¬ x < p + 1 by omega), if_neg c, show x - p = (x - (p + 1)) + 1 by omega, Nat.pow_succ, Nat.mul_comm (n ^ _) n, ← Nat.div_div_eq_div_mul, Nat.mul_comm q n, Nat.mul_add_div h0, Nat.div_eq_of_lt ht]
        rfl
