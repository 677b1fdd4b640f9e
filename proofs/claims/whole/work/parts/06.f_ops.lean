def lget : Lcs → Nat → Option MV
  | [], _ => none
  | a :: _, 0 => a
  | _ :: t, n + 1 => lget t n
def lset : Lcs → Nat → Option MV → Lcs
  | [], _, _ => []
  | _ :: t, 0, v => v :: t
  | a :: t, n + 1, v => a :: lset t n v
theorem lget_eq : ∀ (L : Lcs) (k : Nat) (v : MV), lget L k = some v ↔ L[k]? = some (some v)
  | [], k, v => by simp [lget]
  | a :: t, 0, v => by simp [lget]
  | a :: t, k + 1, v => by simp only [lget, lget_eq t k v]; simp
theorem lset_eq : ∀ (L : Lcs) (k : Nat) (v : Option MV), lset L k v = L.set k v
  | [], k, v => by simp [lset]
  | a :: t, 0, v => by simp [lset]
  | a :: t, k + 1, v => by simp [lset, lset_eq t k v]
def dr (r : Option Nat) (f : Nat → Prop) : Prop := ∃ a, r = some a ∧ f a
theorem dr_some {a : Nat} {f : Nat → Prop} : dr (some a) f ↔ f a := ⟨fun ⟨_, e, h⟩ => by cases e; exact h, fun h => ⟨a, rfl, h⟩⟩
theorem dr_none {f : Nat → Prop} : dr none f ↔ False := ⟨fun ⟨_, e, _⟩ => (by cases e), False.elim⟩
theorem rng_of {x : Int} (h : decide (-2147483648 ≤ x ∧ x < 2147483648) = true) : rng x := of_decide_eq_true (p := -2147483648 ≤ x ∧ x < 2147483648) h
def okn (h : Mh) (r : Option Nat) : Prop := ∀ n, r = some n → Kd h n ≠ 0
theorem okn_some {h : Mh} {a : Nat} : okn h (some a) ↔ Kd h a ≠ 0 := ⟨fun q => q a rfl, fun q n e => by cases e; exact q⟩
theorem okn_none {h : Mh} : okn h none ↔ True := ⟨fun _ => trivial, fun _ n e => by cases e⟩
abbrev pI (x : Int) : MV := .inl x
abbrev pR (r : Option Nat) : MV := .inr (.inl r)
abbrev pL (x : Int) : MV := .inr (.inr x)
-- THE OPERATIONS
def o_const (x : Int) (q : Pd) : Pd := fun L S h c s => q L (pI x :: S) h c s
def o_null (q : Pd) : Pd := fun L S h c s => q L (pR none :: S) h c s
def o_lconst (x : Int) (q : Pd) : Pd := fun L S h c s => q L (pL x :: S) h c s
def o_iload (k : Nat) (q : Pd) : Pd := fun L S h c s => match lget L k with
  | some (.inl x) => q L (pI x :: S) h c s
  | _ => False
def o_aload (k : Nat) (q : Pd) : Pd := fun L S h c s => match lget L k with
  | some (.inr (.inl r)) => q L (pR r :: S) h c s
  | _ => False
def o_istore (k : Nat) (q : Pd) : Pd := fun L S h c s => match S with
  | .inl x :: S' => k < L.length ∧ q (lset L k (some (pI x))) S' h c s
  | _ => False
def o_astore (k : Nat) (q : Pd) : Pd := fun L S h c s => match S with
  | .inr (.inl r) :: S' => k < L.length ∧ q (lset L k (some (pR r))) S' h c s
  | _ => False
def o_iinc (k : Nat) (n : Int) (q : Pd) : Pd := fun L S h c s => match lget L k with
  | some (.inl x) => rng (x + n) ∧ q (lset L k (some (pI (x + n)))) S h c s
  | _ => False
def o_iadd (q : Pd) : Pd := fun L S h c s => match S with
  | .inl y :: .inl x :: S' => rng (x + y) ∧ q L (pI (x + y) :: S') h c s
  | _ => False
def o_isub (q : Pd) : Pd := fun L S h c s => match S with
  | .inl y :: .inl x :: S' => rng (x - y) ∧ q L (pI (x - y) :: S') h c s
  | _ => False
def o_imul (q : Pd) : Pd := fun L S h c s => match S with
  | .inl y :: .inl x :: S' => rng (x * y) ∧ q L (pI (x * y) :: S') h c s
  | _ => False
def o_idiv (q : Pd) : Pd := fun L S h c s => match S with
  | .inl y :: .inl x :: S' => y ≠ 0 ∧ rng (x.tdiv y) ∧ q L (pI (x.tdiv y) :: S') h c s
  | _ => False
def o_irem (q : Pd) : Pd := fun L S h c s => match S with
  | .inl y :: .inl x :: S' => y ≠ 0 ∧ q L (pI (x.tmod y) :: S') h c s
  | _ => False
def o_ineg (q : Pd) : Pd := fun L S h c s => match S with
  | .inl x :: S' => rng (-x) ∧ q L (pI (-x) :: S') h c s
  | _ => False
def o_iand (q : Pd) : Pd := fun L S h c s => match S with
  | .inl y :: .inl x :: S' => q L (pI (Int32.ofInt x &&& Int32.ofInt y).toInt :: S') h c s
  | _ => False
def o_i2l (q : Pd) : Pd := fun L S h c s => match S with
  | .inl x :: S' => q L (pL x :: S') h c s
  | _ => False
def o_lcmp (q : Pd) : Pd := fun L S h c s => match S with
  | .inr (.inr y) :: .inr (.inr x) :: S' => q L (pI (if x < y then -1 else if x = y then 0 else 1) :: S') h c s
  | _ => False
def o_dup (q : Pd) : Pd := fun L S h c s => match S with
  | .inl x :: S' => q L (pI x :: pI x :: S') h c s
  | .inr (.inl r) :: S' => q L (pR r :: pR r :: S') h c s
  | _ => False
def o_dup2 (q : Pd) : Pd := fun L S h c s => match S with
  | .inl y :: .inr (.inl r) :: S' => q L (pI y :: pR r :: pI y :: pR r :: S') h c s
  | _ => False
def o_goto (q : Pd) : Pd := q
def o_max (q : Pd) : Pd := fun L S h c s => match S with
  | .inl y :: .inl x :: S' => q L (pI (max x y) :: S') h c s
  | _ => False
def o_min (q : Pd) : Pd := fun L S h c s => match S with
  | .inl y :: .inl x :: S' => q L (pI (min x y) :: S') h c s
  | _ => False
def o_objinit (q : Pd) : Pd := fun L S h c s => match S with
  | .inr (.inl r) :: S' => dr r (fun _ => q L S' h c s)
  | _ => False
def o_icmplt (t q : Pd) : Pd := fun L S h c s => match S with
  | .inl y :: .inl x :: S' => (x < y → t L S' h c s) ∧ (y ≤ x → q L S' h c s)
  | _ => False
def o_iflt (t q : Pd) : Pd := fun L S h c s => match S with
  | .inl x :: S' => (x < 0 → t L S' h c s) ∧ (0 ≤ x → q L S' h c s)
  | _ => False
def o_icmpge (t q : Pd) : Pd := fun L S h c s => match S with
  | .inl y :: .inl x :: S' => (y ≤ x → t L S' h c s) ∧ (x < y → q L S' h c s)
  | _ => False
def o_ifge (t q : Pd) : Pd := fun L S h c s => match S with
  | .inl x :: S' => (0 ≤ x → t L S' h c s) ∧ (x < 0 → q L S' h c s)
  | _ => False
def o_icmpgt (t q : Pd) : Pd := fun L S h c s => match S with
  | .inl y :: .inl x :: S' => (y < x → t L S' h c s) ∧ (x ≤ y → q L S' h c s)
  | _ => False
def o_ifgt (t q : Pd) : Pd := fun L S h c s => match S with
  | .inl x :: S' => (0 < x → t L S' h c s) ∧ (x ≤ 0 → q L S' h c s)
  | _ => False
def o_icmple (t q : Pd) : Pd := fun L S h c s => match S with
  | .inl y :: .inl x :: S' => (x ≤ y → t L S' h c s) ∧ (y < x → q L S' h c s)
  | _ => False
def o_ifle (t q : Pd) : Pd := fun L S h c s => match S with
  | .inl x :: S' => (x ≤ 0 → t L S' h c s) ∧ (0 < x → q L S' h c s)
  | _ => False
def o_icmpeq (t q : Pd) : Pd := fun L S h c s => match S with
  | .inl y :: .inl x :: S' => (x = y → t L S' h c s) ∧ (x ≠ y → q L S' h c s)
  | _ => False
def o_ifeq (t q : Pd) : Pd := fun L S h c s => match S with
  | .inl x :: S' => (x = 0 → t L S' h c s) ∧ (x ≠ 0 → q L S' h c s)
  | _ => False
def o_icmpne (t q : Pd) : Pd := fun L S h c s => match S with
  | .inl y :: .inl x :: S' => (x ≠ y → t L S' h c s) ∧ (x = y → q L S' h c s)
  | _ => False
def o_ifne (t q : Pd) : Pd := fun L S h c s => match S with
  | .inl x :: S' => (x ≠ 0 → t L S' h c s) ∧ (x = 0 → q L S' h c s)
  | _ => False
def o_ifnull (t q : Pd) : Pd := fun L S h c s => match S with
  | .inr (.inl r) :: S' => (r = none → t L S' h c s) ∧ (r ≠ none → q L S' h c s)
  | _ => False
def o_ifnonnull (t q : Pd) : Pd := fun L S h c s => match S with
  | .inr (.inl r) :: S' => (r ≠ none → t L S' h c s) ∧ (r = none → q L S' h c s)
  | _ => False
def o_acmpeq (t q : Pd) : Pd := fun L S h c s => match S with
  | .inr (.inl y) :: .inr (.inl x) :: S' => okn h x ∧ okn h y ∧ (x = y → t L S' h c s) ∧ (x ≠ y → q L S' h c s)
  | _ => False
def o_acmpne (t q : Pd) : Pd := fun L S h c s => match S with
  | .inr (.inl y) :: .inr (.inl x) :: S' => okn h x ∧ okn h y ∧ (x ≠ y → t L S' h c s) ∧ (x = y → q L S' h c s)
  | _ => False
def tsw (x : Int) (L : Lcs) (S : List MV) (h : Mh) (c s : Nat) : List (Int × Pd) → Prop
  | [] => True
  | (i, t) :: r => (x = i → t L S h c s) ∧ tsw x L S h c s r
def o_tsw (lo hi : Int) (ts : List (Int × Pd)) (q : Pd) : Pd := fun L S h c s => match S with
  | .inl x :: S' => tsw x L S' h c s ts ∧ (x < lo ∨ hi < x → q L S' h c s)
  | _ => False
def o_getI (ci k : Nat) (q : Pd) : Pd := fun L S h c s => match S with
  | .inr (.inl r) :: S' => dr r (fun a => Kd h a = ci + 1 ∧ q L (pI (Mi h a k) :: S') h c s)
  | _ => False
def o_getR (ci k : Nat) (q : Pd) : Pd := fun L S h c s => match S with
  | .inr (.inl r) :: S' => dr r (fun a => Kd h a = ci + 1 ∧ q L (pR (Mr h a k) :: S') h c s)
  | _ => False
def o_putI (ci k : Nat) (q : Pd) : Pd := fun L S h c s => match S with
  | .inl v :: .inr (.inl r) :: S' => dr r (fun a => Kd h a = ci + 1 ∧ q L S' (setI h a k v) c s)
  | _ => False
def o_putZ (ci k : Nat) (q : Pd) : Pd := fun L S h c s => match S with
  | .inl v :: .inr (.inl r) :: S' => dr r (fun a => Kd h a = ci + 1 ∧ (v = 0 ∨ v = 1) ∧ q L S' (setI h a k v) c s)
  | _ => False
def o_putR (ci k : Nat) (q : Pd) : Pd := fun L S h c s => match S with
  | .inr (.inl v) :: .inr (.inl r) :: S' => dr r (fun a => Kd h a = ci + 1 ∧ okn h v ∧ q L S' (setR h a k v) c s)
  | _ => False
def o_iald (q : Pd) : Pd := fun L S h c s => match S with
  | .inl i :: .inr (.inl r) :: S' => dr r (fun a => Kd h a = 21 ∧ 0 ≤ i ∧ i < Ln h a ∧ q L (pI (Mi h a i) :: S') h c s)
  | _ => False
def o_bald (q : Pd) : Pd := fun L S h c s => match S with
  | .inl i :: .inr (.inl r) :: S' => dr r (fun a => Kd h a = 22 ∧ 0 ≤ i ∧ i < Ln h a ∧ q L (pI (Mi h a i) :: S') h c s)
  | _ => False
def o_lald (q : Pd) : Pd := fun L S h c s => match S with
  | .inl i :: .inr (.inl r) :: S' => dr r (fun a => Kd h a = 23 ∧ 0 ≤ i ∧ i < Ln h a ∧ q L (pL (Mi h a i) :: S') h c s)
  | _ => False
def o_aald (q : Pd) : Pd := fun L S h c s => match S with
  | .inl i :: .inr (.inl r) :: S' => dr r (fun a => 23 < Kd h a ∧ 0 ≤ i ∧ i < Ln h a ∧ q L (pR (Mr h a i) :: S') h c s)
  | _ => False
def o_iast (q : Pd) : Pd := fun L S h c s => match S with
  | .inl v :: .inl i :: .inr (.inl r) :: S' => dr r (fun a => Kd h a = 21 ∧ 0 ≤ i ∧ i < Ln h a ∧ q L S' (setI h a i v) c s)
  | _ => False
def o_bast (q : Pd) : Pd := fun L S h c s => match S with
  | .inl v :: .inl i :: .inr (.inl r) :: S' => dr r (fun a => Kd h a = 22 ∧ 0 ≤ i ∧ i < Ln h a ∧ (v = 0 ∨ v = 1) ∧ q L S' (setI h a i v) c s)
  | _ => False
def o_last (q : Pd) : Pd := fun L S h c s => match S with
  | .inr (.inr v) :: .inl i :: .inr (.inl r) :: S' => dr r (fun a => Kd h a = 23 ∧ 0 ≤ i ∧ i < Ln h a ∧ q L S' (setI h a i v) c s)
  | _ => False
def o_aast (ci : Nat) (q : Pd) : Pd := fun L S h c s => match S with
  | .inr (.inl v) :: .inl i :: .inr (.inl r) :: S' => dr r (fun a => Kd h a = 30 + ci ∧ 0 ≤ i ∧ i < Ln h a ∧ (∀ n, v = some n → Kd h n = ci + 1) ∧ q L S' (setR h a i v) c s)
  | _ => False
def o_alen (q : Pd) : Pd := fun L S h c s => match S with
  | .inr (.inl r) :: S' => dr r (fun a => 20 < Kd h a ∧ q L (pI (Ln h a) :: S') h c s)
  | _ => False
def o_new (ci : Nat) (q : Pd) : Pd := fun L S h c s => ∃ n, n ≠ 0 ∧ Kd h n = 0 ∧ 1 ≤ c ∧ nF ci ≤ s ∧ q L (pR (some n) :: S) (alc h n (ci + 1) 0) (c - 1) (s - nF ci)
def o_newa (kind : Nat) (q : Pd) : Pd := fun L S h c s => match S with
  | .inl len :: S' => 0 ≤ len ∧ len ≤ 100000 ∧ 1 ≤ c ∧ len.toNat ≤ s ∧ ∃ n, n ≠ 0 ∧ Kd h n = 0 ∧ q L (pR (some n) :: S') (alc h n kind len) (c - 1) (s - len.toNat)
  | _ => False
def o_iret (P : Out → Mh → Prop) : Pd := fun L S h c s => match S with
  | [.inl x] => P (.inl (some (pI x))) h
  | _ => False
def o_zret (P : Out → Mh → Prop) : Pd := fun L S h c s => match S with
  | [.inl x] => (x = 0 ∨ x = 1) ∧ P (.inl (some (pI x))) h
  | _ => False
def o_aret (P : Out → Mh → Prop) : Pd := fun L S h c s => match S with
  | [.inr (.inl r)] => P (.inl (some (pR r))) h
  | _ => False
def o_vret (P : Out → Mh → Prop) : Pd := fun L S h c s => match S with
  | [] => P (.inl none) h
  | _ => False
def o_throw (E : String) (P : Out → Mh → Prop) : Pd := fun L S h c s => S = [] ∧ 1 ≤ c ∧ 6 ≤ s ∧ P (.inr E) h
/-- behind a call -/
def o_aft (X : String → Pd) (q : Pd) (L : Lcs) (S : List MV) (c s : Nat) : Out → Mh → Prop := fun o h => match o with
  | .inl (some v) => q L (v :: S) h c s
  | .inl none => q L S h c s
  | .inr E => X E L S h c s
def o_call (d : Nat) (K : MKey) (na : Nat) (X : String → Pd) (q : Pd) : Pd := fun L S h c s =>
  na ≤ S.length ∧ S.length ≤ na + 4 ∧ 1 ≤ d ∧ kC K ≤ c ∧ kS K ≤ s ∧ Ct K (d - 1) (S.take na).reverse h (o_aft X q L (S.drop na) (c - kC K) (s - kS K))
def o_callV (d : Nat) (K : MKey) (ci na : Nat) (X : String → Pd) (q : Pd) : Pd := fun L S h c s =>
  dr (match S.drop na with | .inr (.inl r) :: _ => r | _ => none) (fun a => Kd h a = ci + 1) ∧ o_call d K (na + 1) X q L S h c s
def o_up (P : Out → Mh → Prop) : String → Pd := fun E _ _ h _ _ => P (.inr E) h
theorem lcmp_rng (x y : Int) : rng (if x < y then -1 else if x = y then 0 else 1) := by
  split
  · exact ⟨by decide, by decide⟩
  · split <;> exact ⟨by decide, by decide⟩
theorem lcmp_eq {x y : Int} (hx : rng x) (hy : rng y) : lg_cmp (Int64.ofInt x) (Int64.ofInt y) = Int32.ofInt (if x < y then -1 else if x = y then 0 else 1) := by
  have tx : (Int64.ofInt x).toInt = x := Int64.toInt_ofInt_of_le (by have := hx.1; omega) (by have := hx.2; omega)
  have ty : (Int64.ofInt y).toInt = y := Int64.toInt_ofInt_of_le (by have := hy.1; omega) (by have := hy.2; omega)
  have l1 : Int64.ofInt y < Int64.ofInt x ↔ y < x := by rw [Int64.lt_iff_toInt_lt, tx, ty]
  have l2 : Int64.ofInt x = Int64.ofInt y ↔ x = y := ⟨fun q => by have := congrArg Int64.toInt q; rwa [tx, ty] at this, fun q => by rw [q]⟩
  unfold lg_cmp
  simp only [gt_iff_lt, l1, l2]
  rcases Int.lt_trichotomy x y with q | q | q
  · rw [if_pos q, if_neg (by omega), if_neg (by omega)]; rfl
  · subst q
    rw [if_neg (by omega), if_pos rfl, if_neg (by omega), if_pos rfl]; rfl
  · rw [if_pos q, if_neg (by omega : ¬ x < y), if_neg (by omega : ¬ x = y)]; rfl
theorem ugw {s : State} {args : Array Value} (h : ∀ w ∈ UG, w.before args s = true) {w : Cond} (i : Nat) (h1 : lw_tbl[i]? = some w) (h2 : goodWord w = true) : w.before args s = true := h w (ug_of i h1 h2)
theorem sok_cons {h : Mh} {v : MV} {S : List MV} (hv : okv h v) (hS : Sok h S) : Sok h (v :: S) := fun w hw => (List.mem_cons.mp hw).elim (fun e => by rw [e]; exact hv) (hS w)
theorem sok_tl {h : Mh} {v : MV} {S : List MV} (hS : Sok h (v :: S)) : Sok h S := fun w hw => hS w (List.mem_cons_of_mem _ hw)
theorem sok_hd {h : Mh} {v : MV} {S : List MV} (hS : Sok h (v :: S)) : okv h v := hS v List.mem_cons_self
theorem s_iconst {K : MKey} {d : Nat} {X : Option (Nat × (Nat → Int))} {P : Out → Mh → Prop} {pc : Nat} {q : Pd} {x : Int} (hx : decide (-2147483648 ≤ x ∧ x < 2147483648) = true) (hd : decode (kB K) pc = .ok (.iconst x, 1)) (hq : Imp q (Ru K d X P (pc + 1))) : Imp (o_const x q) (Ru K d X P pc) := by
  intro L S h c sl hh l p e R s m args below meth cd D A ad0 dm0 C ad cA H locs ls cells slots hR hS he hL hSk hc hs
  exact lv_iconst C.1 C.2.1 hd rfl (hq L (pI x :: S) h c sl hh l p e R s m args below meth cd D A ad0 dm0 C ad cA H locs ls cells slots hR hS he hL (sok_cons (rng_of hx) hSk) hc hs)
theorem s_bipush {K : MKey} {d : Nat} {X : Option (Nat × (Nat → Int))} {P : Out → Mh → Prop} {pc : Nat} {q : Pd} {x : Int} (hx : decide (-2147483648 ≤ x ∧ x < 2147483648) = true) (hv : (Int8.ofInt x).toInt32 = Int32.ofInt x) (hd : decode (kB K) pc = .ok (.bipush x, 2)) (hq : Imp q (Ru K d X P (pc + 2))) : Imp (o_const x q) (Ru K d X P pc) := by
  intro L S h c sl hh l p e R s m args below meth cd D A ad0 dm0 C ad cA H locs ls cells slots hR hS he hL hSk hc hs
  exact lv_bipush C.1 C.2.1 hd hv (hq L (pI x :: S) h c sl hh l p e R s m args below meth cd D A ad0 dm0 C ad cA H locs ls cells slots hR hS he hL (sok_cons (rng_of hx) hSk) hc hs)
theorem s_sipush {K : MKey} {d : Nat} {X : Option (Nat × (Nat → Int))} {P : Out → Mh → Prop} {pc : Nat} {q : Pd} {x : Int} (hx : decide (-2147483648 ≤ x ∧ x < 2147483648) = true) (hv : (Int16.ofInt x).toInt32 = Int32.ofInt x) (hd : decode (kB K) pc = .ok (.sipush x, 3)) (hq : Imp q (Ru K d X P (pc + 3))) : Imp (o_const x q) (Ru K d X P pc) := by
  intro L S h c sl hh l p e R s m args below meth cd D A ad0 dm0 C ad cA H locs ls cells slots hR hS he hL hSk hc hs
  exact lv_sipush C.1 C.2.1 hd hv (hq L (pI x :: S) h c sl hh l p e R s m args below meth cd D A ad0 dm0 C ad cA H locs ls cells slots hR hS he hL (sok_cons (rng_of hx) hSk) hc hs)
theorem s_ldc {K : MKey} {d : Nat} {X : Option (Nat × (Nat → Int))} {P : Out → Mh → Prop} {pc : Nat} {q : Pd} {x : Int} {idx : Nat} (i : Nat) (hw : lw_tbl[i]? = some (Cond.constant (kY K).cls idx (Int32.ofInt x))) (hx : decide (-2147483648 ≤ x ∧ x < 2147483648) = true) (hd : decode (kB K) pc = .ok (.ldc idx, 2)) (hq : Imp q (Ru K d X P (pc + 2))) : Imp (o_const x q) (Ru K d X P pc) := by
  intro L S h c sl hh l p e R s m args below meth cd D A ad0 dm0 C ad cA H locs ls cells slots hR hS he hL hSk hc hs
  exact lv_ldc C.1 C.2.1 C.2.2.2.2.1 (ugw C.2.2.2.2.2.1 i hw rfl) hd (hq L (pI x :: S) h c sl hh l p e R s m args below meth cd D A ad0 dm0 C ad cA H locs ls cells slots hR hS he hL (sok_cons (rng_of hx) hSk) hc hs)
theorem s_null {K : MKey} {d : Nat} {X : Option (Nat × (Nat → Int))} {P : Out → Mh → Prop} {pc : Nat} {q : Pd}  (hd : decode (kB K) pc = .ok (.aconst_null, 1)) (hq : Imp q (Ru K d X P (pc + 1))) : Imp (o_null q) (Ru K d X P pc) := by
  intro L S h c sl hh l p e R s m args below meth cd D A ad0 dm0 C ad cA H locs ls cells slots hR hS he hL hSk hc hs
  exact lv_null C.1 C.2.1 hd (hq L (pR none :: S) h c sl hh l p e R s m args below meth cd D A ad0 dm0 C ad cA H locs ls cells slots hR hS he hL (sok_cons (fun _ e => by cases e) hSk) hc hs)
theorem s_iload_n {K : MKey} {d : Nat} {X : Option (Nat × (Nat → Int))} {P : Out → Mh → Prop} {pc : Nat} {q : Pd} {k : Fin 4} (hd : decode (kB K) pc = .ok (.iload_n k, 1)) (hq : Imp q (Ru K d X P (pc + 1))) : Imp (o_iload (k : Nat) q) (Ru K d X P pc) := by
  intro L S h c sl hh l p e R s m args below meth cd D A ad0 dm0 C ad cA H locs ls cells slots hR hS he hL hSk hc hs
  unfold o_iload at hh
  split at hh
  next x hx =>
    have hx2 := (lget_eq _ _ _).mp hx
    exact lv_iload_n C.1 C.2.1 hd rfl (hL.get hx2) (hq L (pI x :: S) h c sl hh l p e R s m args below meth cd D A ad0 dm0 C ad cA H locs ls cells slots hR hS he hL (sok_cons (hL.2.2 _ _ hx2).1 hSk) hc hs)
  next => exact hh.elim
theorem s_iload {K : MKey} {d : Nat} {X : Option (Nat × (Nat → Int))} {P : Out → Mh → Prop} {pc : Nat} {q : Pd} {k : Nat} (hd : decode (kB K) pc = .ok (.iload k, 2)) (hq : Imp q (Ru K d X P (pc + 2))) : Imp (o_iload k q) (Ru K d X P pc) := by
  intro L S h c sl hh l p e R s m args below meth cd D A ad0 dm0 C ad cA H locs ls cells slots hR hS he hL hSk hc hs
  unfold o_iload at hh
  split at hh
  next x hx =>
    have hx2 := (lget_eq _ _ _).mp hx
    exact lv_iload C.1 C.2.1 hd (hL.get hx2) (hq L (pI x :: S) h c sl hh l p e R s m args below meth cd D A ad0 dm0 C ad cA H locs ls cells slots hR hS he hL (sok_cons (hL.2.2 _ _ hx2).1 hSk) hc hs)
  next => exact hh.elim
theorem s_aload_n {K : MKey} {d : Nat} {X : Option (Nat × (Nat → Int))} {P : Out → Mh → Prop} {pc : Nat} {q : Pd} {k : Fin 4} (hd : decode (kB K) pc = .ok (.aload_n k, 1)) (hq : Imp q (Ru K d X P (pc + 1))) : Imp (o_aload (k : Nat) q) (Ru K d X P pc) := by
  intro L S h c sl hh l p e R s m args below meth cd D A ad0 dm0 C ad cA H locs ls cells slots hR hS he hL hSk hc hs
  unfold o_aload at hh
  split at hh
  next r hx =>
    have hx2 := (lget_eq _ _ _).mp hx
    have hg := hL.get hx2
    have K9 := hq L (pR r :: S) h c sl hh l p e R s m args below meth cd D A ad0 dm0 C ad cA H locs ls cells slots hR hS he hL (sok_cons (hL.2.2 _ _ hx2).1 hSk) hc hs
    cases r with
    | none => exact lv_aload_nN C.1 C.2.1 hd rfl hg K9
    | some a => exact lv_aload_n C.1 C.2.1 hd rfl hg K9
  next => exact hh.elim
theorem s_aload {K : MKey} {d : Nat} {X : Option (Nat × (Nat → Int))} {P : Out → Mh → Prop} {pc : Nat} {q : Pd} {k : Nat} (hd : decode (kB K) pc = .ok (.aload k, 2)) (hq : Imp q (Ru K d X P (pc + 2))) : Imp (o_aload k q) (Ru K d X P pc) := by
  intro L S h c sl hh l p e R s m args below meth cd D A ad0 dm0 C ad cA H locs ls cells slots hR hS he hL hSk hc hs
  unfold o_aload at hh
  split at hh
  next r hx =>
    have hx2 := (lget_eq _ _ _).mp hx
    have hg := hL.get hx2
    have K9 := hq L (pR r :: S) h c sl hh l p e R s m args below meth cd D A ad0 dm0 C ad cA H locs ls cells slots hR hS he hL (sok_cons (hL.2.2 _ _ hx2).1 hSk) hc hs
    cases r with
    | none => exact lv_aloadN C.1 C.2.1 hd hg K9
    | some a => exact lv_aload C.1 C.2.1 hd hg K9
  next => exact hh.elim
theorem s_istore_n {K : MKey} {d : Nat} {X : Option (Nat × (Nat → Int))} {P : Out → Mh → Prop} {pc : Nat} {q : Pd} {k : Fin 4} (hd : decode (kB K) pc = .ok (.istore_n k, 1)) (hq : Imp q (Ru K d X P (pc + 1))) : Imp (o_istore (k : Nat) q) (Ru K d X P pc) := by
  intro L S h c sl hh l p e R s m args below meth cd D A ad0 dm0 C ad cA H locs ls cells slots hR hS he hL hSk hc hs
  unfold o_istore at hh
  split at hh
  next x S' =>
    obtain ⟨hk, hh⟩ := hh
    refine lv_istore_n C.1 C.2.1 hd rfl hL.2.1 (by rw [← hL.1]; exact hk) rfl (fun ls' h' => ?_)
    rw [lset_eq] at hh
    exact hq _ S' h c sl hh l p e R s m args below meth cd D A ad0 dm0 C ad cA H locs ls' cells slots hR hS he (hL.put (v := pI x) (sok_hd hSk) trivial h') (sok_tl hSk) hc hs
  next => exact hh.elim
theorem s_istore {K : MKey} {d : Nat} {X : Option (Nat × (Nat → Int))} {P : Out → Mh → Prop} {pc : Nat} {q : Pd} {k : Nat} (hd : decode (kB K) pc = .ok (.istore k, 2)) (hq : Imp q (Ru K d X P (pc + 2))) : Imp (o_istore k q) (Ru K d X P pc) := by
  intro L S h c sl hh l p e R s m args below meth cd D A ad0 dm0 C ad cA H locs ls cells slots hR hS he hL hSk hc hs
  unfold o_istore at hh
  split at hh
  next x S' =>
    obtain ⟨hk, hh⟩ := hh
    refine lv_istore C.1 C.2.1 hd hL.2.1 (by rw [← hL.1]; exact hk) rfl (fun ls' h' => ?_)
    rw [lset_eq] at hh
    exact hq _ S' h c sl hh l p e R s m args below meth cd D A ad0 dm0 C ad cA H locs ls' cells slots hR hS he (hL.put (v := pI x) (sok_hd hSk) trivial h') (sok_tl hSk) hc hs
  next => exact hh.elim
theorem s_astore_n {K : MKey} {d : Nat} {X : Option (Nat × (Nat → Int))} {P : Out → Mh → Prop} {pc : Nat} {q : Pd} {k : Fin 4} (hd : decode (kB K) pc = .ok (.astore_n k, 1)) (hq : Imp q (Ru K d X P (pc + 1))) : Imp (o_astore (k : Nat) q) (Ru K d X P pc) := by
  intro L S h c sl hh l p e R s m args below meth cd D A ad0 dm0 C ad cA H locs ls cells slots hR hS he hL hSk hc hs
  unfold o_astore at hh
  split at hh
  next r S' =>
    obtain ⟨hk, hh⟩ := hh
    rw [lset_eq] at hh
    have K9 := fun ls' h' => hq _ S' h c sl hh l p e R s m args below meth cd D A ad0 dm0 C ad cA H locs ls' cells slots hR hS he (hL.put (v := pR r) (sok_hd hSk) trivial h') (sok_tl hSk) hc hs
    cases r with
    | none => exact lv_astore_nN C.1 C.2.1 hd rfl hL.2.1 (by rw [← hL.1]; exact hk) rfl K9
    | some a => exact lv_astore_n C.1 C.2.1 hd rfl hL.2.1 (by rw [← hL.1]; exact hk) rfl K9
  next => exact hh.elim
theorem s_astore {K : MKey} {d : Nat} {X : Option (Nat × (Nat → Int))} {P : Out → Mh → Prop} {pc : Nat} {q : Pd} {k : Nat} (hd : decode (kB K) pc = .ok (.astore k, 2)) (hq : Imp q (Ru K d X P (pc + 2))) : Imp (o_astore k q) (Ru K d X P pc) := by
  intro L S h c sl hh l p e R s m args below meth cd D A ad0 dm0 C ad cA H locs ls cells slots hR hS he hL hSk hc hs
  unfold o_astore at hh
  split at hh
  next r S' =>
    obtain ⟨hk, hh⟩ := hh
    rw [lset_eq] at hh
    have K9 := fun ls' h' => hq _ S' h c sl hh l p e R s m args below meth cd D A ad0 dm0 C ad cA H locs ls' cells slots hR hS he (hL.put (v := pR r) (sok_hd hSk) trivial h') (sok_tl hSk) hc hs
    cases r with
    | none => exact lv_astoreN C.1 C.2.1 hd hL.2.1 (by rw [← hL.1]; exact hk) rfl K9
    | some a => exact lv_astore C.1 C.2.1 hd hL.2.1 (by rw [← hL.1]; exact hk) rfl K9
  next => exact hh.elim
theorem s_iinc {K : MKey} {d : Nat} {X : Option (Nat × (Nat → Int))} {P : Out → Mh → Prop} {pc : Nat} {q : Pd} {k : Nat} {n : Int} (hn : decide (-2147483648 ≤ n ∧ n < 2147483648) = true) (hd : decode (kB K) pc = .ok (.iinc k n, 3)) (hq : Imp q (Ru K d X P (pc + 3))) : Imp (o_iinc k n q) (Ru K d X P pc) := by
  intro L S h c sl hh l p e R s m args below meth cd D A ad0 dm0 C ad cA H locs ls cells slots hR hS he hL hSk hc hs
  unfold o_iinc at hh
  split at hh
  next x hx =>
    obtain ⟨hr, hh⟩ := hh
    have hx2 := (lget_eq _ _ _).mp hx
    rw [lset_eq] at hh
    obtain ⟨j, hj⟩ := List.getElem?_of_mem ((lvf_mem (ad := ad) L 0 (k, tv ad (pI x))).mpr ⟨k, pI x, hx2, by simp⟩)
    refine lv_iinc C.1 C.2.1 hd hL.2.1 hj (v := Int32.ofInt (x + n)) (Int32.ofInt_add x n).symm (by rw [← hL.1]; exact (List.getElem?_eq_some_iff.mp hx2).1) rfl (fun ls' h' => ?_)
    exact hq _ S h c sl hh l p e R s m args below meth cd D A ad0 dm0 C ad cA H locs ls' cells slots hR hS he (hL.put (v := pI (x + n)) hr trivial h') hSk hc hs
  next => exact hh.elim
theorem s_iadd {K : MKey} {d : Nat} {X : Option (Nat × (Nat → Int))} {P : Out → Mh → Prop} {pc : Nat} {q : Pd}  (hd : decode (kB K) pc = .ok (.iadd, 1)) (hq : Imp q (Ru K d X P (pc + 1))) : Imp (o_iadd q) (Ru K d X P pc) := by
  intro L S h c sl hh l p e R s m args below meth cd D A ad0 dm0 C ad cA H locs ls cells slots hR hS he hL hSk hc hs
  unfold o_iadd at hh
  split at hh
  next y x S' =>
    obtain ⟨hr, hh⟩ := hh
    have K9 := hq L (pI (x + y) :: S') h c sl hh l p e R s m args below meth cd D A ad0 dm0 C ad cA H locs ls cells slots hR hS he hL (sok_cons hr (sok_tl (sok_tl hSk))) hc hs
    rw [List.map_cons, show tv ad (pI (x + y)) = .int (Int32.ofInt (x + y)) from rfl, Int32.ofInt_add x y] at K9
    exact lv_iadd C.1 C.2.1 hd K9
  next => exact hh.elim
theorem s_isub {K : MKey} {d : Nat} {X : Option (Nat × (Nat → Int))} {P : Out → Mh → Prop} {pc : Nat} {q : Pd}  (hd : decode (kB K) pc = .ok (.isub, 1)) (hq : Imp q (Ru K d X P (pc + 1))) : Imp (o_isub q) (Ru K d X P pc) := by
  intro L S h c sl hh l p e R s m args below meth cd D A ad0 dm0 C ad cA H locs ls cells slots hR hS he hL hSk hc hs
  unfold o_isub at hh
  split at hh
  next y x S' =>
    obtain ⟨hr, hh⟩ := hh
    have K9 := hq L (pI (x - y) :: S') h c sl hh l p e R s m args below meth cd D A ad0 dm0 C ad cA H locs ls cells slots hR hS he hL (sok_cons hr (sok_tl (sok_tl hSk))) hc hs
    rw [List.map_cons, show tv ad (pI (x - y)) = .int (Int32.ofInt (x - y)) from rfl, Int32.ofInt_sub x y] at K9
    exact lv_isub C.1 C.2.1 hd K9
  next => exact hh.elim
theorem s_imul {K : MKey} {d : Nat} {X : Option (Nat × (Nat → Int))} {P : Out → Mh → Prop} {pc : Nat} {q : Pd}  (hd : decode (kB K) pc = .ok (.imul, 1)) (hq : Imp q (Ru K d X P (pc + 1))) : Imp (o_imul q) (Ru K d X P pc) := by
  intro L S h c sl hh l p e R s m args below meth cd D A ad0 dm0 C ad cA H locs ls cells slots hR hS he hL hSk hc hs
  unfold o_imul at hh
  split at hh
  next y x S' =>
    obtain ⟨hr, hh⟩ := hh
    have K9 := hq L (pI (x * y) :: S') h c sl hh l p e R s m args below meth cd D A ad0 dm0 C ad cA H locs ls cells slots hR hS he hL (sok_cons hr (sok_tl (sok_tl hSk))) hc hs
    rw [List.map_cons, show tv ad (pI (x * y)) = .int (Int32.ofInt (x * y)) from rfl, Int32.ofInt_mul x y] at K9
    exact lv_imul C.1 C.2.1 hd K9
  next => exact hh.elim
theorem s_idiv {K : MKey} {d : Nat} {X : Option (Nat × (Nat → Int))} {P : Out → Mh → Prop} {pc : Nat} {q : Pd}  (hd : decode (kB K) pc = .ok (.idiv, 1)) (hq : Imp q (Ru K d X P (pc + 1))) : Imp (o_idiv q) (Ru K d X P pc) := by
  intro L S h c sl hh l p e R s m args below meth cd D A ad0 dm0 C ad cA H locs ls cells slots hR hS he hL hSk hc hs
  unfold o_idiv at hh
  split at hh
  next y x S' =>
    obtain ⟨h0, hr, hh⟩ := hh
    have K9 := hq L (pI (x.tdiv y) :: S') h c sl hh l p e R s m args below meth cd D A ad0 dm0 C ad cA H locs ls cells slots hR hS he hL (sok_cons hr (sok_tl (sok_tl hSk))) hc hs
    have hy : rng y := sok_hd hSk
    have hx : rng x := sok_hd (sok_tl hSk)
    rw [List.map_cons, show tv ad (pI (x.tdiv y)) = .int (Int32.ofInt (x.tdiv y)) from rfl, ← i32_div hx hy hr] at K9
    exact lv_idiv C.1 C.2.1 hd (fun e => h0 ((i32_eq hy ⟨by decide, by decide⟩).mp e)) K9
  next => exact hh.elim
theorem s_irem {K : MKey} {d : Nat} {X : Option (Nat × (Nat → Int))} {P : Out → Mh → Prop} {pc : Nat} {q : Pd}  (hd : decode (kB K) pc = .ok (.irem, 1)) (hq : Imp q (Ru K d X P (pc + 1))) : Imp (o_irem q) (Ru K d X P pc) := by
  intro L S h c sl hh l p e R s m args below meth cd D A ad0 dm0 C ad cA H locs ls cells slots hR hS he hL hSk hc hs
  unfold o_irem at hh
  split at hh
  next y x S' =>
    obtain ⟨h0, hh⟩ := hh
    have hy : rng y := sok_hd hSk
    have hx : rng x := sok_hd (sok_tl hSk)
    have e9 := i32_rem hx hy
    have hr : rng (x.tmod y) := by
      have h1 := hx.1
      have h2 := hx.2
      have h3 := Int.natAbs_tmod x y
      have h4 := Nat.mod_le x.natAbs y.natAbs
      by_cases h0 : 0 ≤ x
      · have := Int.tmod_nonneg y h0
        exact ⟨by omega, by omega⟩
      · have h5 : 0 ≤ (-x).tmod y := Int.tmod_nonneg y (by omega)
        rw [Int.neg_tmod] at h5
        exact ⟨by omega, by omega⟩
    have K9 := hq L (pI (x.tmod y) :: S') h c sl hh l p e R s m args below meth cd D A ad0 dm0 C ad cA H locs ls cells slots hR hS he hL (sok_cons hr (sok_tl (sok_tl hSk))) hc hs
    rw [List.map_cons, show tv ad (pI (x.tmod y)) = .int (Int32.ofInt (x.tmod y)) from rfl, ← e9] at K9
    exact lv_irem C.1 C.2.1 hd (fun e => h0 ((i32_eq hy ⟨by decide, by decide⟩).mp e)) K9
  next => exact hh.elim
theorem s_ineg {K : MKey} {d : Nat} {X : Option (Nat × (Nat → Int))} {P : Out → Mh → Prop} {pc : Nat} {q : Pd}  (hd : decode (kB K) pc = .ok (.ineg, 1)) (hq : Imp q (Ru K d X P (pc + 1))) : Imp (o_ineg q) (Ru K d X P pc) := by
  intro L S h c sl hh l p e R s m args below meth cd D A ad0 dm0 C ad cA H locs ls cells slots hR hS he hL hSk hc hs
  unfold o_ineg at hh
  split at hh
  next x S' =>
    obtain ⟨hr, hh⟩ := hh
    have K9 := hq L (pI (-x) :: S') h c sl hh l p e R s m args below meth cd D A ad0 dm0 C ad cA H locs ls cells slots hR hS he hL (sok_cons hr (sok_tl hSk)) hc hs
    rw [List.map_cons, show tv ad (pI (-x)) = .int (Int32.ofInt (-x)) from rfl, Int32.ofInt_neg] at K9
    exact lv_ineg C.1 C.2.1 hd K9
  next => exact hh.elim
theorem s_iand {K : MKey} {d : Nat} {X : Option (Nat × (Nat → Int))} {P : Out → Mh → Prop} {pc : Nat} {q : Pd}  (hd : decode (kB K) pc = .ok (.iand, 1)) (hq : Imp q (Ru K d X P (pc + 1))) : Imp (o_iand q) (Ru K d X P pc) := by
  intro L S h c sl hh l p e R s m args below meth cd D A ad0 dm0 C ad cA H locs ls cells slots hR hS he hL hSk hc hs
  unfold o_iand at hh
  split at hh
  next y x S' =>
    have hr : rng (Int32.ofInt x &&& Int32.ofInt y).toInt := ⟨by have := Int32.le_toInt (Int32.ofInt x &&& Int32.ofInt y); omega, by have := Int32.toInt_lt (Int32.ofInt x &&& Int32.ofInt y); omega⟩
    have K9 := hq L (pI (Int32.ofInt x &&& Int32.ofInt y).toInt :: S') h c sl hh l p e R s m args below meth cd D A ad0 dm0 C ad cA H locs ls cells slots hR hS he hL (sok_cons hr (sok_tl (sok_tl hSk))) hc hs
    rw [List.map_cons, show tv ad (pI (Int32.ofInt x &&& Int32.ofInt y).toInt) = .int (Int32.ofInt (Int32.ofInt x &&& Int32.ofInt y).toInt) from rfl, Int32.ofInt_toInt] at K9
    exact lv_iand C.1 C.2.1 hd K9
  next => exact hh.elim
theorem s_i2l {K : MKey} {d : Nat} {X : Option (Nat × (Nat → Int))} {P : Out → Mh → Prop} {pc : Nat} {q : Pd}  (hd : decode (kB K) pc = .ok (.i2l, 1)) (hq : Imp q (Ru K d X P (pc + 1))) : Imp (o_i2l q) (Ru K d X P pc) := by
  intro L S h c sl hh l p e R s m args below meth cd D A ad0 dm0 C ad cA H locs ls cells slots hR hS he hL hSk hc hs
  unfold o_i2l at hh
  split at hh
  next x S' =>
    have hr : rng x := sok_hd hSk
    exact lv_i2l C.1 C.2.1 hd (v := Int64.ofInt x) (Int32.toInt64_ofInt (by have := hr.1; show (-2147483648 : Int) ≤ x; omega) (by have := hr.2; show x ≤ (2147483647 : Int); omega)) (hq L (pL x :: S') h c sl hh l p e R s m args below meth cd D A ad0 dm0 C ad cA H locs ls cells slots hR hS he hL (sok_cons (v := pL x) hr (sok_tl hSk)) hc hs)
  next => exact hh.elim
theorem s_lconst {K : MKey} {d : Nat} {X : Option (Nat × (Nat → Int))} {P : Out → Mh → Prop} {pc : Nat} {q : Pd} {n : Fin 2} {x : Int} (hx : x = (n : Nat)) (hd : decode (kB K) pc = .ok (.lconst n, 1)) (hq : Imp q (Ru K d X P (pc + 1))) : Imp (o_lconst x q) (Ru K d X P pc) := by
  intro L S h c sl hh l p e R s m args below meth cd D A ad0 dm0 C ad cA H locs ls cells slots hR hS he hL hSk hc hs
  subst hx
  exact lv_lconst C.1 C.2.1 hd (v := Int64.ofInt ((n : Nat) : Int)) (by first | rfl | exact (Int64.ofInt_eq_ofNat).symm | simp) (hq L (pL ((n : Nat) : Int) :: S) h c sl hh l p e R s m args below meth cd D A ad0 dm0 C ad cA H locs ls cells slots hR hS he hL (sok_cons (v := pL ((n : Nat) : Int)) ⟨by omega, by have := n.isLt; omega⟩ hSk) hc hs)
theorem s_dup {K : MKey} {d : Nat} {X : Option (Nat × (Nat → Int))} {P : Out → Mh → Prop} {pc : Nat} {q : Pd}  (hd : decode (kB K) pc = .ok (.dup, 1)) (hq : Imp q (Ru K d X P (pc + 1))) : Imp (o_dup q) (Ru K d X P pc) := by
  intro L S h c sl hh l p e R s m args below meth cd D A ad0 dm0 C ad cA H locs ls cells slots hR hS he hL hSk hc hs
  unfold o_dup at hh
  split at hh
  next x S' => exact lv_dup C.1 C.2.1 hd rfl (hq L (pI x :: pI x :: S') h c sl hh l p e R s m args below meth cd D A ad0 dm0 C ad cA H locs ls cells slots hR hS he hL (sok_cons (sok_hd hSk) hSk) hc hs)
  next r S' => exact lv_dup C.1 C.2.1 hd (tv_cat (v := pR r) trivial) (hq L (pR r :: pR r :: S') h c sl hh l p e R s m args below meth cd D A ad0 dm0 C ad cA H locs ls cells slots hR hS he hL (sok_cons (sok_hd hSk) hSk) hc hs)
  next => exact hh.elim
theorem s_dup2 {K : MKey} {d : Nat} {X : Option (Nat × (Nat → Int))} {P : Out → Mh → Prop} {pc : Nat} {q : Pd}  (hd : decode (kB K) pc = .ok (.dup2, 1)) (hq : Imp q (Ru K d X P (pc + 1))) : Imp (o_dup2 q) (Ru K d X P pc) := by
  intro L S h c sl hh l p e R s m args below meth cd D A ad0 dm0 C ad cA H locs ls cells slots hR hS he hL hSk hc hs
  unfold o_dup2 at hh
  split at hh
  next y r S' => exact lv_dup2_11 C.1 C.2.1 hd rfl (tv_cat (v := pR r) trivial) (hq L (pI y :: pR r :: pI y :: pR r :: S') h c sl hh l p e R s m args below meth cd D A ad0 dm0 C ad cA H locs ls cells slots hR hS he hL (sok_cons (sok_hd hSk) (sok_cons (sok_hd (sok_tl hSk)) hSk)) hc hs)
  next => exact hh.elim
theorem s_lcmp {K : MKey} {d : Nat} {X : Option (Nat × (Nat → Int))} {P : Out → Mh → Prop} {pc : Nat} {q : Pd}  (hd : decode (kB K) pc = .ok (.lcmp, 1)) (hq : Imp q (Ru K d X P (pc + 1))) : Imp (o_lcmp q) (Ru K d X P pc) := by
  intro L S h c sl hh l p e R s m args below meth cd D A ad0 dm0 C ad cA H locs ls cells slots hR hS he hL hSk hc hs
  unfold o_lcmp at hh
  split at hh
  next y x S' =>
    have hy : rng y := sok_hd hSk
    have hx : rng x := sok_hd (sok_tl hSk)
    have K9 := hq L (pI (if x < y then -1 else if x = y then 0 else 1) :: S') h c sl hh l p e R s m args below meth cd D A ad0 dm0 C ad cA H locs ls cells slots hR hS he hL (sok_cons (lcmp_rng x y) (sok_tl (sok_tl hSk))) hc hs
    have e9 := lcmp_eq hx hy
    rw [List.map_cons, show tv ad (pI (if x < y then -1 else if x = y then 0 else 1)) = .int (Int32.ofInt (if x < y then -1 else if x = y then 0 else 1)) from rfl, ← e9] at K9
    exact W.lcmp C.1 C.2.1 hd K9
  next => exact hh.elim
theorem s_icmplt {K : MKey} {d : Nat} {X : Option (Nat × (Nat → Int))} {P : Out → Mh → Prop} {pc tgt : Nat} {off : Int} {t q : Pd} (hd : decode (kB K) pc = .ok (.if_icmp .lt off, 3)) (ht : (pc : Int) + off = (tgt : Int)) (ht2 : Imp t (Ru K d X P tgt)) (hq : Imp q (Ru K d X P (pc + 3))) : Imp (o_icmplt t q) (Ru K d X P pc) := by
  intro L S h c sl hh l p e R s m args below meth cd D A ad0 dm0 C ad cA H locs ls cells slots hR hS he hL hSk hc hs
  unfold o_icmplt at hh
  split at hh
  next y x S' =>
    have hy : rng y := sok_hd hSk
    have hx : rng x := sok_hd (sok_tl hSk)
    refine lv_icmp_lt (tgt := tgt) C.1 C.2.1 hd ht (fun z => ?_) (fun z => ?_)
    · exact ht2 L S' h c sl (hh.1 ((i32_lt hx hy).mp z)) l p e R s m args below meth cd D A ad0 dm0 C ad cA H locs ls cells slots hR hS he hL (sok_tl (sok_tl hSk)) hc hs
    · exact hq L S' h c sl (hh.2 (by have := mt (i32_lt hx hy).mpr z; omega)) l p e R s m args below meth cd D A ad0 dm0 C ad cA H locs ls cells slots hR hS he hL (sok_tl (sok_tl hSk)) hc hs
  next => exact hh.elim
theorem s_iflt {K : MKey} {d : Nat} {X : Option (Nat × (Nat → Int))} {P : Out → Mh → Prop} {pc tgt : Nat} {off : Int} {t q : Pd} (hd : decode (kB K) pc = .ok (.ifCond .lt off, 3)) (ht : (pc : Int) + off = (tgt : Int)) (ht2 : Imp t (Ru K d X P tgt)) (hq : Imp q (Ru K d X P (pc + 3))) : Imp (o_iflt t q) (Ru K d X P pc) := by
  intro L S h c sl hh l p e R s m args below meth cd D A ad0 dm0 C ad cA H locs ls cells slots hR hS he hL hSk hc hs
  unfold o_iflt at hh
  split at hh
  next x S' =>
    have hx : rng x := sok_hd hSk
    have hy : rng 0 := ⟨by decide, by decide⟩
    refine lv_if_lt (tgt := tgt) C.1 C.2.1 hd ht (fun z => ?_) (fun z => ?_)
    · exact ht2 L S' h c sl (hh.1 ((i32_lt hx hy).mp z)) l p e R s m args below meth cd D A ad0 dm0 C ad cA H locs ls cells slots hR hS he hL (sok_tl hSk) hc hs
    · exact hq L S' h c sl (hh.2 (by have := mt (i32_lt hx hy).mpr z; omega)) l p e R s m args below meth cd D A ad0 dm0 C ad cA H locs ls cells slots hR hS he hL (sok_tl hSk) hc hs
  next => exact hh.elim
theorem s_icmpge {K : MKey} {d : Nat} {X : Option (Nat × (Nat → Int))} {P : Out → Mh → Prop} {pc tgt : Nat} {off : Int} {t q : Pd} (hd : decode (kB K) pc = .ok (.if_icmp .ge off, 3)) (ht : (pc : Int) + off = (tgt : Int)) (ht2 : Imp t (Ru K d X P tgt)) (hq : Imp q (Ru K d X P (pc + 3))) : Imp (o_icmpge t q) (Ru K d X P pc) := by
  intro L S h c sl hh l p e R s m args below meth cd D A ad0 dm0 C ad cA H locs ls cells slots hR hS he hL hSk hc hs
  unfold o_icmpge at hh
  split at hh
  next y x S' =>
    have hy : rng y := sok_hd hSk
    have hx : rng x := sok_hd (sok_tl hSk)
    refine lv_icmp_ge (tgt := tgt) C.1 C.2.1 hd ht (fun z => ?_) (fun z => ?_)
    · exact ht2 L S' h c sl (hh.1 ((i32_le hy hx).mp z)) l p e R s m args below meth cd D A ad0 dm0 C ad cA H locs ls cells slots hR hS he hL (sok_tl (sok_tl hSk)) hc hs
    · exact hq L S' h c sl (hh.2 (by have := mt (i32_le hy hx).mpr z; omega)) l p e R s m args below meth cd D A ad0 dm0 C ad cA H locs ls cells slots hR hS he hL (sok_tl (sok_tl hSk)) hc hs
  next => exact hh.elim
theorem s_ifge {K : MKey} {d : Nat} {X : Option (Nat × (Nat → Int))} {P : Out → Mh → Prop} {pc tgt : Nat} {off : Int} {t q : Pd} (hd : decode (kB K) pc = .ok (.ifCond .ge off, 3)) (ht : (pc : Int) + off = (tgt : Int)) (ht2 : Imp t (Ru K d X P tgt)) (hq : Imp q (Ru K d X P (pc + 3))) : Imp (o_ifge t q) (Ru K d X P pc) := by
  intro L S h c sl hh l p e R s m args below meth cd D A ad0 dm0 C ad cA H locs ls cells slots hR hS he hL hSk hc hs
  unfold o_ifge at hh
  split at hh
  next x S' =>
    have hx : rng x := sok_hd hSk
    have hy : rng 0 := ⟨by decide, by decide⟩
    refine lv_if_ge (tgt := tgt) C.1 C.2.1 hd ht (fun z => ?_) (fun z => ?_)
    · exact ht2 L S' h c sl (hh.1 ((i32_le hy hx).mp z)) l p e R s m args below meth cd D A ad0 dm0 C ad cA H locs ls cells slots hR hS he hL (sok_tl hSk) hc hs
    · exact hq L S' h c sl (hh.2 (by have := mt (i32_le hy hx).mpr z; omega)) l p e R s m args below meth cd D A ad0 dm0 C ad cA H locs ls cells slots hR hS he hL (sok_tl hSk) hc hs
  next => exact hh.elim
theorem s_icmpgt {K : MKey} {d : Nat} {X : Option (Nat × (Nat → Int))} {P : Out → Mh → Prop} {pc tgt : Nat} {off : Int} {t q : Pd} (hd : decode (kB K) pc = .ok (.if_icmp .gt off, 3)) (ht : (pc : Int) + off = (tgt : Int)) (ht2 : Imp t (Ru K d X P tgt)) (hq : Imp q (Ru K d X P (pc + 3))) : Imp (o_icmpgt t q) (Ru K d X P pc) := by
  intro L S h c sl hh l p e R s m args below meth cd D A ad0 dm0 C ad cA H locs ls cells slots hR hS he hL hSk hc hs
  unfold o_icmpgt at hh
  split at hh
  next y x S' =>
    have hy : rng y := sok_hd hSk
    have hx : rng x := sok_hd (sok_tl hSk)
    refine lv_icmp_gt (tgt := tgt) C.1 C.2.1 hd ht (fun z => ?_) (fun z => ?_)
    · exact ht2 L S' h c sl (hh.1 ((i32_lt hy hx).mp z)) l p e R s m args below meth cd D A ad0 dm0 C ad cA H locs ls cells slots hR hS he hL (sok_tl (sok_tl hSk)) hc hs
    · exact hq L S' h c sl (hh.2 (by have := mt (i32_lt hy hx).mpr z; omega)) l p e R s m args below meth cd D A ad0 dm0 C ad cA H locs ls cells slots hR hS he hL (sok_tl (sok_tl hSk)) hc hs
  next => exact hh.elim
theorem s_ifgt {K : MKey} {d : Nat} {X : Option (Nat × (Nat → Int))} {P : Out → Mh → Prop} {pc tgt : Nat} {off : Int} {t q : Pd} (hd : decode (kB K) pc = .ok (.ifCond .gt off, 3)) (ht : (pc : Int) + off = (tgt : Int)) (ht2 : Imp t (Ru K d X P tgt)) (hq : Imp q (Ru K d X P (pc + 3))) : Imp (o_ifgt t q) (Ru K d X P pc) := by
  intro L S h c sl hh l p e R s m args below meth cd D A ad0 dm0 C ad cA H locs ls cells slots hR hS he hL hSk hc hs
  unfold o_ifgt at hh
  split at hh
  next x S' =>
    have hx : rng x := sok_hd hSk
    have hy : rng 0 := ⟨by decide, by decide⟩
    refine lv_if_gt (tgt := tgt) C.1 C.2.1 hd ht (fun z => ?_) (fun z => ?_)
    · exact ht2 L S' h c sl (hh.1 ((i32_lt hy hx).mp z)) l p e R s m args below meth cd D A ad0 dm0 C ad cA H locs ls cells slots hR hS he hL (sok_tl hSk) hc hs
    · exact hq L S' h c sl (hh.2 (by have := mt (i32_lt hy hx).mpr z; omega)) l p e R s m args below meth cd D A ad0 dm0 C ad cA H locs ls cells slots hR hS he hL (sok_tl hSk) hc hs
  next => exact hh.elim
theorem s_icmple {K : MKey} {d : Nat} {X : Option (Nat × (Nat → Int))} {P : Out → Mh → Prop} {pc tgt : Nat} {off : Int} {t q : Pd} (hd : decode (kB K) pc = .ok (.if_icmp .le off, 3)) (ht : (pc : Int) + off = (tgt : Int)) (ht2 : Imp t (Ru K d X P tgt)) (hq : Imp q (Ru K d X P (pc + 3))) : Imp (o_icmple t q) (Ru K d X P pc) := by
  intro L S h c sl hh l p e R s m args below meth cd D A ad0 dm0 C ad cA H locs ls cells slots hR hS he hL hSk hc hs
  unfold o_icmple at hh
  split at hh
  next y x S' =>
    have hy : rng y := sok_hd hSk
    have hx : rng x := sok_hd (sok_tl hSk)
    refine lv_icmp_le (tgt := tgt) C.1 C.2.1 hd ht (fun z => ?_) (fun z => ?_)
    · exact ht2 L S' h c sl (hh.1 ((i32_le hx hy).mp z)) l p e R s m args below meth cd D A ad0 dm0 C ad cA H locs ls cells slots hR hS he hL (sok_tl (sok_tl hSk)) hc hs
    · exact hq L S' h c sl (hh.2 (by have := mt (i32_le hx hy).mpr z; omega)) l p e R s m args below meth cd D A ad0 dm0 C ad cA H locs ls cells slots hR hS he hL (sok_tl (sok_tl hSk)) hc hs
  next => exact hh.elim
theorem s_ifle {K : MKey} {d : Nat} {X : Option (Nat × (Nat → Int))} {P : Out → Mh → Prop} {pc tgt : Nat} {off : Int} {t q : Pd} (hd : decode (kB K) pc = .ok (.ifCond .le off, 3)) (ht : (pc : Int) + off = (tgt : Int)) (ht2 : Imp t (Ru K d X P tgt)) (hq : Imp q (Ru K d X P (pc + 3))) : Imp (o_ifle t q) (Ru K d X P pc) := by
  intro L S h c sl hh l p e R s m args below meth cd D A ad0 dm0 C ad cA H locs ls cells slots hR hS he hL hSk hc hs
  unfold o_ifle at hh
  split at hh
  next x S' =>
    have hx : rng x := sok_hd hSk
    have hy : rng 0 := ⟨by decide, by decide⟩
    refine lv_if_le (tgt := tgt) C.1 C.2.1 hd ht (fun z => ?_) (fun z => ?_)
    · exact ht2 L S' h c sl (hh.1 ((i32_le hx hy).mp z)) l p e R s m args below meth cd D A ad0 dm0 C ad cA H locs ls cells slots hR hS he hL (sok_tl hSk) hc hs
    · exact hq L S' h c sl (hh.2 (by have := mt (i32_le hx hy).mpr z; omega)) l p e R s m args below meth cd D A ad0 dm0 C ad cA H locs ls cells slots hR hS he hL (sok_tl hSk) hc hs
  next => exact hh.elim
theorem s_icmpeq {K : MKey} {d : Nat} {X : Option (Nat × (Nat → Int))} {P : Out → Mh → Prop} {pc tgt : Nat} {off : Int} {t q : Pd} (hd : decode (kB K) pc = .ok (.if_icmp .eq off, 3)) (ht : (pc : Int) + off = (tgt : Int)) (ht2 : Imp t (Ru K d X P tgt)) (hq : Imp q (Ru K d X P (pc + 3))) : Imp (o_icmpeq t q) (Ru K d X P pc) := by
  intro L S h c sl hh l p e R s m args below meth cd D A ad0 dm0 C ad cA H locs ls cells slots hR hS he hL hSk hc hs
  unfold o_icmpeq at hh
  split at hh
  next y x S' =>
    have hy : rng y := sok_hd hSk
    have hx : rng x := sok_hd (sok_tl hSk)
    refine lv_icmp_eq (tgt := tgt) C.1 C.2.1 hd ht (fun z => ?_) (fun z => ?_)
    · exact ht2 L S' h c sl (hh.1 ((i32_eq hx hy).mp z)) l p e R s m args below meth cd D A ad0 dm0 C ad cA H locs ls cells slots hR hS he hL (sok_tl (sok_tl hSk)) hc hs
    · exact hq L S' h c sl (hh.2 (mt (i32_eq hx hy).mpr z)) l p e R s m args below meth cd D A ad0 dm0 C ad cA H locs ls cells slots hR hS he hL (sok_tl (sok_tl hSk)) hc hs
  next => exact hh.elim
theorem s_ifeq {K : MKey} {d : Nat} {X : Option (Nat × (Nat → Int))} {P : Out → Mh → Prop} {pc tgt : Nat} {off : Int} {t q : Pd} (hd : decode (kB K) pc = .ok (.ifCond .eq off, 3)) (ht : (pc : Int) + off = (tgt : Int)) (ht2 : Imp t (Ru K d X P tgt)) (hq : Imp q (Ru K d X P (pc + 3))) : Imp (o_ifeq t q) (Ru K d X P pc) := by
  intro L S h c sl hh l p e R s m args below meth cd D A ad0 dm0 C ad cA H locs ls cells slots hR hS he hL hSk hc hs
  unfold o_ifeq at hh
  split at hh
  next x S' =>
    have hx : rng x := sok_hd hSk
    have hy : rng 0 := ⟨by decide, by decide⟩
    refine lv_if_eq (tgt := tgt) C.1 C.2.1 hd ht (fun z => ?_) (fun z => ?_)
    · exact ht2 L S' h c sl (hh.1 ((i32_eq hx hy).mp z)) l p e R s m args below meth cd D A ad0 dm0 C ad cA H locs ls cells slots hR hS he hL (sok_tl hSk) hc hs
    · exact hq L S' h c sl (hh.2 (mt (i32_eq hx hy).mpr z)) l p e R s m args below meth cd D A ad0 dm0 C ad cA H locs ls cells slots hR hS he hL (sok_tl hSk) hc hs
  next => exact hh.elim
theorem s_icmpne {K : MKey} {d : Nat} {X : Option (Nat × (Nat → Int))} {P : Out → Mh → Prop} {pc tgt : Nat} {off : Int} {t q : Pd} (hd : decode (kB K) pc = .ok (.if_icmp .ne off, 3)) (ht : (pc : Int) + off = (tgt : Int)) (ht2 : Imp t (Ru K d X P tgt)) (hq : Imp q (Ru K d X P (pc + 3))) : Imp (o_icmpne t q) (Ru K d X P pc) := by
  intro L S h c sl hh l p e R s m args below meth cd D A ad0 dm0 C ad cA H locs ls cells slots hR hS he hL hSk hc hs
  unfold o_icmpne at hh
  split at hh
  next y x S' =>
    have hy : rng y := sok_hd hSk
    have hx : rng x := sok_hd (sok_tl hSk)
    refine lv_icmp_ne (tgt := tgt) C.1 C.2.1 hd ht (fun z => ?_) (fun z => ?_)
    · exact ht2 L S' h c sl (hh.1 (fun w => z ((i32_eq hx hy).mpr w))) l p e R s m args below meth cd D A ad0 dm0 C ad cA H locs ls cells slots hR hS he hL (sok_tl (sok_tl hSk)) hc hs
    · exact hq L S' h c sl (hh.2 ((i32_eq hx hy).mp z)) l p e R s m args below meth cd D A ad0 dm0 C ad cA H locs ls cells slots hR hS he hL (sok_tl (sok_tl hSk)) hc hs
  next => exact hh.elim
theorem s_ifne {K : MKey} {d : Nat} {X : Option (Nat × (Nat → Int))} {P : Out → Mh → Prop} {pc tgt : Nat} {off : Int} {t q : Pd} (hd : decode (kB K) pc = .ok (.ifCond .ne off, 3)) (ht : (pc : Int) + off = (tgt : Int)) (ht2 : Imp t (Ru K d X P tgt)) (hq : Imp q (Ru K d X P (pc + 3))) : Imp (o_ifne t q) (Ru K d X P pc) := by
  intro L S h c sl hh l p e R s m args below meth cd D A ad0 dm0 C ad cA H locs ls cells slots hR hS he hL hSk hc hs
  unfold o_ifne at hh
  split at hh
  next x S' =>
    have hx : rng x := sok_hd hSk
    have hy : rng 0 := ⟨by decide, by decide⟩
    refine lv_if_ne (tgt := tgt) C.1 C.2.1 hd ht (fun z => ?_) (fun z => ?_)
    · exact ht2 L S' h c sl (hh.1 (fun w => z ((i32_eq hx hy).mpr w))) l p e R s m args below meth cd D A ad0 dm0 C ad cA H locs ls cells slots hR hS he hL (sok_tl hSk) hc hs
    · exact hq L S' h c sl (hh.2 ((i32_eq hx hy).mp z)) l p e R s m args below meth cd D A ad0 dm0 C ad cA H locs ls cells slots hR hS he hL (sok_tl hSk) hc hs
  next => exact hh.elim
theorem s_goto {K : MKey} {d : Nat} {X : Option (Nat × (Nat → Int))} {P : Out → Mh → Prop} {pc tgt : Nat} {off : Int} {q : Pd} (hd : decode (kB K) pc = .ok (.goto off, 3)) (ht : (pc : Int) + off = (tgt : Int)) (hq : Imp q (Ru K d X P tgt)) : Imp (o_goto q) (Ru K d X P pc) := by
  intro L S h c sl hh l p e R s m args below meth cd D A ad0 dm0 C ad cA H locs ls cells slots hR hS he hL hSk hc hs
  exact lv_goto (tgt := tgt) C.1 C.2.1 hd ht (hq L S h c sl hh l p e R s m args below meth cd D A ad0 dm0 C ad cA H locs ls cells slots hR hS he hL hSk hc hs)
theorem s_ifnull {K : MKey} {d : Nat} {X : Option (Nat × (Nat → Int))} {P : Out → Mh → Prop} {pc tgt : Nat} {off : Int} {t q : Pd} (hd : decode (kB K) pc = .ok (.ifnull off, 3)) (ht : (pc : Int) + off = (tgt : Int)) (ht2 : Imp t (Ru K d X P tgt)) (hq : Imp q (Ru K d X P (pc + 3))) : Imp (o_ifnull t q) (Ru K d X P pc) := by
  intro L S h c sl hh l p e R s m args below meth cd D A ad0 dm0 C ad cA H locs ls cells slots hR hS he hL hSk hc hs
  unfold o_ifnull at hh
  split at hh
  next r S' =>
    cases r with
    | none => exact lv_ifnullN (tgt := tgt) C.1 C.2.1 hd ht (ht2 L S' h c sl (hh.1 rfl) l p e R s m args below meth cd D A ad0 dm0 C ad cA H locs ls cells slots hR hS he hL (sok_tl hSk) hc hs)
    | some a => exact lv_ifnull C.1 C.2.1 hd (hq L S' h c sl (hh.2 (fun e => by cases e)) l p e R s m args below meth cd D A ad0 dm0 C ad cA H locs ls cells slots hR hS he hL (sok_tl hSk) hc hs)
  next => exact hh.elim
theorem s_ifnonnull {K : MKey} {d : Nat} {X : Option (Nat × (Nat → Int))} {P : Out → Mh → Prop} {pc tgt : Nat} {off : Int} {t q : Pd} (hd : decode (kB K) pc = .ok (.ifnonnull off, 3)) (ht : (pc : Int) + off = (tgt : Int)) (ht2 : Imp t (Ru K d X P tgt)) (hq : Imp q (Ru K d X P (pc + 3))) : Imp (o_ifnonnull t q) (Ru K d X P pc) := by
  intro L S h c sl hh l p e R s m args below meth cd D A ad0 dm0 C ad cA H locs ls cells slots hR hS he hL hSk hc hs
  unfold o_ifnonnull at hh
  split at hh
  next r S' =>
    cases r with
    | none => exact lv_ifnonnullN C.1 C.2.1 hd (hq L S' h c sl (hh.2 rfl) l p e R s m args below meth cd D A ad0 dm0 C ad cA H locs ls cells slots hR hS he hL (sok_tl hSk) hc hs)
    | some a => exact lv_ifnonnull (tgt := tgt) C.1 C.2.1 hd ht (ht2 L S' h c sl (hh.1 (fun e => by cases e)) l p e R s m args below meth cd D A ad0 dm0 C ad cA H locs ls cells slots hR hS he hL (sok_tl hSk) hc hs)
  next => exact hh.elim
