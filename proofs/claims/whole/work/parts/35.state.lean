/-! the state that both sides speak of -/
structure xS where
  N : Nat
  tg : Nat → Nat
  hd : Nat → Nat
  wt : Nat → Int32
  fb : Nat → Nat
  E : Nat
  gn : Nat → Nat
  ks : Nat → Nat
  kt : Nat → Nat → Nat
  kh : Nat → Nat → Nat
  A : Nat
  qs : Nat → Nat
  qx : Nat → Nat
  qy : Nat → Nat
/-- a drawing: its words, tags and heads -/
structure dOk (n : Nat) (tg hd : Nat → Nat) : Prop where
  n1 : 1 ≤ n
  n7 : n ≤ 7
  t0 : tg 0 = 10
  t9 : ∀ d, 1 ≤ d → tg d ≤ 9
  tz : ∀ d, n < d → tg d = 0
  hn : ∀ d, hd d ≤ n
  h0 : hd 0 = 0
  hz : ∀ d, n < d → hd d = 0
structure xOk (σ : xS) : Prop where
  d : dOk σ.N σ.tg σ.hd
  w1 : ∀ k, -1000000 ≤ (σ.wt k).toInt ∧ (σ.wt k).toInt ≤ 1000000
  wz : ∀ k, 64 ≤ k → σ.wt k = 0
  f1 : ∀ k, σ.fb k ≤ 1
  fz : ∀ k, 64 ≤ k → σ.fb k = 0
  E20 : σ.E ≤ 20
  g1 : ∀ j, σ.gn j ≤ 1
  kd : ∀ j, j < σ.E → dOk (σ.ks j) (σ.kt j) (σ.kh j)
  ktr : ∀ j, j < σ.E → ∀ x, zit (σ.kh j) 7 x = 0
  A6 : σ.A ≤ 6
  q4 : ∀ i, i < σ.A → σ.qs i ≤ 4 ∧ σ.qx i ≤ 3 ∧ σ.qy i ≤ (if σ.qs i = 3 then 9 else 3)
/-- how many words of a kept one have tag b and a head of tag a on that side -/
def kcn (n : Nat) (tg hd : Nat → Nat) (a b sd : Nat) : Nat := zcnt (fun d => decide (tg (hd d) = a ∧ tg d = b ∧ (if hd d < d then 0 else 1) = sd)) n 1
def kbn (n : Nat) (tg : Nat → Nat) (b : Nat) : Nat := zcnt (fun d => decide (tg d = b)) n 1
/-- over the kept ones that are not gone: c of them from j on -/
def ksum (gn : Nat → Nat) (g : Nat → Nat) : Nat → Nat → Nat
  | 0, _ => 0
  | c + 1, j => (if gn j = 0 then g j else 0) + ksum gn g c (j + 1)
def xcn (σ : xS) (a b sd : Nat) : Nat := ksum σ.gn (fun j => kcn (σ.ks j) (σ.kt j) (σ.kh j) a b sd) σ.E 0
def xtn (σ : xS) (b : Nat) : Nat := ksum σ.gn (fun j => kbn (σ.ks j) (σ.kt j) b) σ.E 0
structure xRC (σ : xS) (C : xC) : Prop where
  N : C.N = nI σ.N
  tg : C.tg = fun d => nI (σ.tg d)
  hd : C.hd = fun d => nI (σ.hd d)
  wt : C.wt = σ.wt
  fb : C.fb = fun k => nI (σ.fb k)
  R : rok C.R
  E : C.E = nI σ.E
  K : C.K = σ.E
  kr : ∀ j, j < σ.E → C.kr j = if σ.gn j = 0 then some (303 + 3 * j) else none
  kd : ∀ j, j < σ.E → C.kd j = (nI (σ.ks j), (fun d => nI (σ.kt j d)), (fun d => nI (σ.kh j d)))
  ct : ∀ a b sd, a ≤ 10 → b ≤ 9 → sd ≤ 1 → C.ct ((a * 10 + b) * 2 + sd) = nI (xcn σ a b sd)
  tt : ∀ b, b ≤ 9 → C.tt b = nI (xtn σ b)
  A : C.A = nI σ.A
  q : ∀ i, i < σ.A → C.qs i = nI (σ.qs i) ∧ C.qx i = nI (σ.qx i) ∧ C.qy i = nI (σ.qy i)
/-- what is known of the trees, as a function of words, weights and what is forbidden -/
def xCa (N : Nat) (wt : Nat → Int32) (fb : Nat → Nat) (mn : Nat → Int64) (rk rs rh : Nat → Int32) : Prop := True
structure xRM (ca : Nat → (Nat → Int32) → (Nat → Nat) → (Nat → Int64) → (Nat → Int32) → (Nat → Int32) → (Nat → Int32) → Prop) (σ : xS) (M : xM) : Prop where
  N : M.n = nI σ.N
  tg : M.tg = fun d => if d = 0 then 0 else nI (σ.tg d)
  hd : M.hd = fun d => nI (σ.hd d)
  wt : M.wt = σ.wt
  fb : M.fb = fun k => nI (σ.fb k)
  kn : M.kn = 0 ∨ (M.kn = 1 ∧ ca σ.N σ.wt σ.fb M.mn M.rk M.rs M.rh)
  E : M.E = nI σ.E
  k : ∀ j, j < σ.E → M.gn j = nI (σ.gn j) ∧ M.ks j = nI (σ.ks j) ∧ ∀ d, 1 ≤ d → d < 8 → M.kt (8 * j + d) = nI (σ.kt j d) ∧ M.kh (8 * j + d) = nI (σ.kh j d)
  kz : ∀ j, σ.E ≤ j → j < 20 → M.gn j = 0 ∧ ∀ d, 1 ≤ d → d < 8 → M.kt (8 * j + d) = 0 ∧ M.kh (8 * j + d) = 0
  A : M.A = nI σ.A
  q : ∀ i, i < σ.A → M.qs i = nI (σ.qs i) ∧ M.qx i = nI (σ.qx i) ∧ M.qy i = nI (σ.qy i)
  rw : xrz M.rw
