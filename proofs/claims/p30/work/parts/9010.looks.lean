/-! longestShortage, reliability, digest, both sides. -/
theorem it_app {α : Type} (F : Nat → α → α) (x : α) (m : Nat) : ∀ n, it F x (m + n) = it (fun i => F (m + i)) (it F x m) n
  | 0 => rfl
  | n + 1 => congrArg (F (m + n)) (it_app F x m n)
theorem it_nest {α : Type} (F : Nat → α → α) (q : Nat) (x : α) : ∀ k, it F x (q * k) = it (fun i x => it (fun w => F (q * i + w)) x q) x k
  | 0 => rfl
  | k + 1 => by
    rw [Nat.mul_succ, it_app, it_nest F q x k]
    rfl
theorem it_cg {α : Type} {F G : Nat → α → α} {n : Nat} (h : ∀ i x, i < n → F i x = G i x) (x : α) : it F x n = it G x n := by
  have := it_two (fun (i : Nat) (p q : α) => p = q) F G n (a := x) (b := x) rfl (fun i p q hi hpq => by rw [hpq]; exact h i q hi)
  exact this
def r_cnt (ac : Nat → Int32) (D : Nat) : Int32 := it (fun d x => if b_sh ac d = 0 then x + 1 else x) 0 D
def dsum (f : Nat → Int32) (x : Int64) (n : Nat) : Int64 := it (fun i x => (31 : Int64) * x + Int32.toInt64 (f i)) x n
def dtail (f : Nat → Int64) (x : Int64) (n : Nat) : Int64 := it (fun i x => (31 : Int64) * x + f (i + 1)) x n
section PX1
variable {B s L c k n N D : Nat} {h : XH} {cap flo top eva lim rul lev dry : Int32} {lo : Int64} {rf us : UT} {od ra ac : Nat → Int32} {ap : Int32} {rfm usm : UT} {ram acm sv as : Nat → Int32} {th : Int32} {sd : Int64} {td : Int32} {sp : Nat → Int64} {lf : Int32} {tx : Nat → Int32} {pl nb : Int32}
variable {fu : Nat}
theorem st_short' (hS : St (B + 1) h cap flo top eva lim rul (nI k) (nI n) (nI N) (nI D) lev dry lo rf us od ra ac) {d : Nat} (hd : d < 100) : f_X2_isShort h (B + 1) (nI d) = some (b_sh ac d) := st_short hS hd
theorem b_sh_eq (e : ∀ j, j < D * 10 → ac j = acm j) {d : Nat} (hd : d < D) : b_sh ac d = b_sh acm d := by
  unfold b_sh
  rw [e (d * 10 + 7) (by omega)]
theorem r_cnt_n (ac : Nat → Int32) : ∀ D, ∃ m, m ≤ D ∧ r_cnt ac D = nI m
  | 0 => ⟨0, Nat.le_refl _, rfl⟩
  | D + 1 => by
    obtain ⟨m, h1, h2⟩ := r_cnt_n ac D
    show ∃ m', m' ≤ D + 1 ∧ (if b_sh ac D = 0 then r_cnt ac D + 1 else r_cnt ac D) = nI m'
    by_cases e : b_sh ac D = 0
    · rw [if_pos e, h2, xnI_s]; exact ⟨m + 1, by omega, rfl⟩
    · rw [if_neg e, h2]; exact ⟨m, by omega, rfl⟩
theorem xdiv_ok : ∀ D, D < 101 → ∀ m, m < 101 → 0 < D → m ≤ D → (xdiv (FP.i2d (nI m)) (FP.i2d (nI D))).isSome = true := by decide +kernel
end PX1

