def nwW : List Cond := [.castable "java/lang/IllegalStateException" "java/lang/IllegalStateException", .declares ⟨"java/lang/RuntimeException", "<init>", "()V"⟩, .declares ⟨"java/lang/RuntimeException", "<init>", "(Ljava/lang/String;)V"⟩, .declares ⟨"java/lang/Exception", "<init>", "()V"⟩, .declares ⟨"java/lang/Exception", "<init>", "(Ljava/lang/String;)V"⟩, .declares ⟨"java/lang/Throwable", "<init>", "()V"⟩, .declares ⟨"java/lang/Throwable", "<init>", "(Ljava/lang/String;)V"⟩, .castable "java/lang/IllegalArgumentException" "java/lang/IllegalArgumentException", .castable "java/lang/IndexOutOfBoundsException" "java/lang/IndexOutOfBoundsException", .methodLinkNest "Marionette$Frame" 40 ⟨"Marionette", "spaceOf", "(I)I"⟩ "Marionette", .methodLinkNest "Marionette$Shot" 126 ⟨"Marionette", "lineOf", "(II)I"⟩ "Marionette", .methodLinkNest "Marionette$Farm" 124 ⟨"Marionette", "spaceOf", "(I)I"⟩ "Marionette", .methodLinkNest "Marionette$Cache" 38 ⟨"Marionette", "lineOf", "(II)I"⟩ "Marionette"]
def strW : List (String × Nat × String) := [("Marionette", 367, "not as things stand"), ("Marionette", 295, "out of range"), ("Marionette", 362, "no such one"), ("Marionette", 370, "no such version"), ("Marionette", 355, "below 0")]
def aoW : List String := ["Marionette$Asset", "Marionette$Version", "Marionette$Constraint", "Marionette$Shot", "Marionette$Machine", "Marionette$Frame", "Marionette$Note", "Marionette$Delivery"]
def ncW : List (String × String) := [("java/lang/IndexOutOfBoundsException", "java/lang/IllegalArgumentException"), ("java/lang/IndexOutOfBoundsException", "java/lang/IllegalStateException"), ("java/lang/IllegalArgumentException", "java/lang/IndexOutOfBoundsException"), ("java/lang/IllegalArgumentException", "java/lang/IllegalStateException"), ("java/lang/IllegalStateException", "java/lang/IndexOutOfBoundsException"), ("java/lang/IllegalStateException", "java/lang/IllegalArgumentException")]
theorem nw_moved {s U : State} (hW : s.WarmedH U.vm) (h : ∀ w ∈ nwW, va_Nw w s) : ∀ w ∈ nwW, va_Nw w U := by
  intro w hw
  have h9 := h w hw
  simp only [nwW, List.mem_cons, List.not_mem_nil, or_false] at hw
  rcases hw with rfl | rfl | rfl | rfl | rfl | rfl | rfl | rfl | rfl | rfl | rfl | rfl | rfl
  · exact va_Nw.warmC hW h9
  · exact va_Nw.warmD hW h9
  · exact va_Nw.warmD hW h9
  · exact va_Nw.warmD hW h9
  · exact va_Nw.warmD hW h9
  · exact va_Nw.warmD hW h9
  · exact va_Nw.warmD hW h9
  · exact va_Nw.warmC hW h9
  · exact va_Nw.warmC hW h9
  · exact va_Nw.warmM hW h9
  · exact va_Nw.warmM hW h9
  · exact va_Nw.warmM hW h9
  · exact va_Nw.warmM hW h9
abbrev MKey : Type := MethodName × ByteArray × Nat × Option FieldType × List (Nat × Nat × Nat × Nat) × Nat × Nat
def kY (K : MKey) : MethodName := K.1
def kB (K : MKey) : ByteArray := K.2.1
def kL (K : MKey) : Nat := K.2.2.1
def kR (K : MKey) : Option FieldType := K.2.2.2.1
def kH (K : MKey) : List (Nat × Nat × Nat × Nat) := K.2.2.2.2.1
def kC (K : MKey) : Nat := K.2.2.2.2.2.1
def kS (K : MKey) : Nat := K.2.2.2.2.2.2
def codeW (K : MKey) : Cond := match kH K with
  | [] => .code (kY K) (kB K) (kL K) (kR K)
  | q :: r => .codeWith (kY K) (kB K) (kL K) (kR K) (q :: r)
def kW (K : MKey) : List Cond := codeW K :: UG
/-- what the tables and the statics say, beside the good words -/
def Kx (D : va_G) (A : Nat → Prop) (U : State) (H : Heap) : Prop :=
  va_K D vwCl [] U ∧ (∀ w ∈ nwW, va_Nw w U) ∧ (∀ q ∈ strW, ∃ sa, vk_R q.1 q.2.1 q.2.2 sa U) ∧ (∀ C ∈ aoW, va_AO C U) ∧ va_AOA .int U ∧ (∀ q ∈ ncW, va_Nc q.1 q.2 U) ∧
  vx_Zq Bundle.tN "UNASSIGNED_STACK" Bundle.steD A U H ∧ vx_Zq Bundle.tN "SUPPRESSED_SENTINEL" Bundle.listD A U H
theorem Kx.at {D : va_G} {A B : Nat → Prop} {s U : State} {H H1 : Heap} (h : Kx D A s H) (hW : s.WarmedH U.vm) (hq : ∀ a : Nat, a < H.size → ¬ A a → H1[a]? = H[a]?) (hAB : ∀ q, B q → A q) : Kx D B U H1 := by
  obtain ⟨h1, h2, h3, h4, h5, h6, h7, h8⟩ := h
  exact ⟨va_K.moved hW.alike h1, nw_moved hW h2, fun q hq => by obtain ⟨sa, h⟩ := h3 q hq; exact ⟨sa, h.warm hW⟩, fun C hC => va_AO.moved hW.alike (h4 C hC), va_AOA.moved hW.alike h5, fun q hq => va_Nc.moved hW.alike (h6 q hq),
    vx_Zq.moved hW.alike ((h7.kept hq).narrow hAB), vx_Zq.moved hW.alike ((h8.kept hq).narrow hAB)⟩
def dmh (h : Mh) (n : Nat) : Prop := n = 0 ∨ Kd h n ≠ 0
def Qn (D : va_G) (P : Out → Mh → Prop) (ad0 : Nat → Nat) (dm0 : Nat → Prop) (A : Nat → Prop) : Array Value → State → Outcome → State → Prop := fun _ st o t =>
  (∃ (v : Option MV) (h : Mh) (ad : Nat → Nat) (cA : Nat → ClassId), o = .returned (v.map (tv ad)) ∧ P (.inl v) h ∧ (∀ w, v = some w → okv h w) ∧ Rep D cA ad h t.heap A t ∧ ∀ n, dm0 n → dmh h n ∧ ad n = ad0 n) ∧ va_F A st t
def Xn (D : va_G) (P : Out → Mh → Prop) (ad0 : Nat → Nat) (dm0 : Nat → Prop) (A : Nat → Prop) : String → State → State → Prop := fun E st t =>
  (∃ (h : Mh) (ad : Nat → Nat) (cA : Nat → ClassId), P (.inr E) h ∧ Rep D cA ad h t.heap A t ∧ ∀ n, dm0 n → dmh h n ∧ ad n = ad0 n) ∧ va_F A st t
/-- the cells that a method may write: those that have names, and new ones -/
def Ar (ad : Nat → Nat) (h : Mh) (sz : Nat) : Nat → Prop := fun q => (∃ n, Kd h n ≠ 0 ∧ ad n = q) ∨ sz ≤ q
def kRm (K : MKey) (d : Nat) : Room := { frames := d, cells := kC K, slots := kS K, locals := 40 * d }
/-- CONTRACT: method K, called with these in this heap, returns or throws with P -/
def Ct (K : MKey) (d : Nat) (as : List MV) (h : Mh) (P : Out → Mh → Prop) : Prop :=
  ∀ (l : Launch) (D : va_G) (cA : Nat → ClassId) (ad : Nat → Nat) (sz : Nat), l.stackTraces = false → (∀ v ∈ as, okv h v ∧ cat1 v) →
    vx_Met l (kY K) (kW K) (kRm K d) (va_Pc (as.map (tv ad)) (fun U => U.heap.size = sz ∧ Rep D cA ad h U.heap (Ar ad h sz) U ∧ Kx D (Ar ad h sz) U U.heap)) (Qn D P ad (dmh h) (Ar ad h sz)) (Xn D P ad (dmh h) (Ar ad h sz)) (kC K) (kS K) (Ar ad h sz)
def lvf (ad : Nat → Nat) : Nat → Lcs → List (Nat × Value)
  | _, [] => []
  | i, none :: t => lvf ad (i + 1) t
  | i, some v :: t => (i, tv ad v) :: lvf ad (i + 1) t
theorem lvf_mem {ad : Nat → Nat} : ∀ (L : Lcs) (i : Nat) (q : Nat × Value), q ∈ lvf ad i L ↔ ∃ (k : Nat) (v : MV), L[k]? = some (some v) ∧ q = (i + k, tv ad v)
  | [], i, q => by simp [lvf]
  | none :: t, i, q => by
    simp only [lvf, lvf_mem t (i + 1) q]
    constructor
    · rintro ⟨k, v, h1, h2⟩
      exact ⟨k + 1, v, by simpa using h1, by rw [h2]; congr 1; omega⟩
    · rintro ⟨k, v, h1, h2⟩
      match k, h1, h2 with
      | 0, h1, _ => simp at h1
      | k + 1, h1, h2 => exact ⟨k, v, by simpa using h1, by rw [h2]; congr 1; omega⟩
  | some w :: t, i, q => by
    simp only [lvf, List.mem_cons, lvf_mem t (i + 1) q]
    constructor
    · rintro (rfl | ⟨k, v, h1, h2⟩)
      · exact ⟨0, w, rfl, rfl⟩
      · exact ⟨k + 1, v, by simpa using h1, by rw [h2]; congr 1; omega⟩
    · rintro ⟨k, v, h1, h2⟩
      match k, h1, h2 with
      | 0, h1, h2 =>
        left
        simp at h1
        rw [h2, h1]; rfl
      | k + 1, h1, h2 => exact Or.inr ⟨k, v, by simpa using h1, by rw [h2]; congr 1; omega⟩
/-- the locals -/
def Lok (ad : Nat → Nat) (h : Mh) (L : Lcs) (ls : Array Slot) (nL : Nat) : Prop := L.length = nL ∧ lv_has ls nL (lvf ad 0 L) ∧ ∀ (k : Nat) (v : MV), L[k]? = some (some v) → okv h v ∧ cat1 v
theorem tv_cat {ad : Nat → Nat} {v : MV} (h : cat1 v) : (tv ad v).category = 1 := by
  match v, h with
  | .inl x, _ => rfl
  | .inr (.inl none), _ => rfl
  | .inr (.inl (some a)), _ => rfl
theorem Lok.get {ad : Nat → Nat} {h : Mh} {L : Lcs} {ls : Array Slot} {nL : Nat} (H : Lok ad h L ls nL) {k : Nat} {v : MV} (hk : L[k]? = some (some v)) : ls[k]? = some (.val (tv ad v)) := by
  have := H.2.1.2.2 (k, tv ad v) ((lvf_mem L 0 _).mpr ⟨k, v, hk, by simp⟩)
  exact this
theorem Lok.put {ad : Nat → Nat} {h : Mh} {L : Lcs} {ls ls' : Array Slot} {nL : Nat} (H : Lok ad h L ls nL) {k : Nat} {v : MV} (hv : okv h v) (hc : cat1 v)
    (h' : lv_has ls' nL ((k, tv ad v) :: (lvf ad 0 L).filter (fun q => !(q.1 == k) && !(q.1 + 1 == k && q.2.category == 2)))) : Lok ad h (L.set k (some v)) ls' nL := by
  refine ⟨by rw [List.length_set]; exact H.1, ⟨h'.1, h'.2.1, fun q hq => ?_⟩, fun j w hw => ?_⟩
  · obtain ⟨j, w, h1, rfl⟩ := (lvf_mem _ 0 q).mp hq
    refine h'.2.2 _ ?_
    by_cases e : k = j
    · subst e
      rw [List.getElem?_set] at h1
      simp only [if_true] at h1
      split at h1
      · cases h1; simp
      · cases h1
    · rw [List.getElem?_set_ne e] at h1
      refine List.mem_cons_of_mem _ (List.mem_filter.mpr ⟨(lvf_mem L 0 _).mpr ⟨j, w, h1, rfl⟩, ?_⟩)
      have hcw := tv_cat (ad := ad) (H.2.2 j w h1).2
      have hne : ¬ (0 + j = k) := by omega
      simp [hcw]
      omega
  · by_cases e : k = j
    · subst e
      rw [List.getElem?_set] at hw
      simp only [if_true] at hw
      split at hw
      · cases hw; exact ⟨hv, hc⟩
      · cases hw
    · rw [List.getElem?_set_ne e] at hw
      exact H.2.2 j w hw
theorem Lok.drop {ad : Nat → Nat} {h : Mh} {L : Lcs} {ls ls' : Array Slot} {nL : Nat} (H : Lok ad h L ls nL) {k : Nat} {w : Value} (hcw : w.category = 1)
    (h' : lv_has ls' nL ((k, w) :: (lvf ad 0 L).filter (fun q => !(q.1 == k) && !(q.1 + 1 == k && q.2.category == 2)))) : Lok ad h (L.set k none) ls' nL := by
  refine ⟨by rw [List.length_set]; exact H.1, ⟨h'.1, h'.2.1, fun q hq => ?_⟩, fun j w hw => ?_⟩
  · obtain ⟨j, w, h1, rfl⟩ := (lvf_mem _ 0 q).mp hq
    refine h'.2.2 _ ?_
    by_cases e : k = j
    · subst e
      rw [List.getElem?_set] at h1
      simp only [if_true] at h1
      split at h1 <;> cases h1
    · rw [List.getElem?_set_ne e] at h1
      refine List.mem_cons_of_mem _ (List.mem_filter.mpr ⟨(lvf_mem L 0 _).mpr ⟨j, w, h1, rfl⟩, ?_⟩)
      have hcw := tv_cat (ad := ad) (H.2.2 j w h1).2
      have hne : ¬ (0 + j = k) := by omega
      simp [hcw]
      omega
  · by_cases e : k = j
    · subst e
      rw [List.getElem?_set] at hw
      simp only [if_true] at hw
      split at hw <;> cases hw
    · rw [List.getElem?_set_ne e] at hw
      exact H.2.2 j w hw
/-- the heap and the addresses move on, old names stay -/
theorem okv_mono {h h' : Mh} (hd : ∀ n, Kd h n ≠ 0 → Kd h' n ≠ 0) {v : MV} (hv : okv h v) : okv h' v := by
  match v, hv with
  | .inl x, hv => exact hv
  | .inr (.inl r), hv => exact fun n e => (hv n e).elim Or.inl (fun q => Or.inr (hd n q))
  | .inr (.inr x), hv => exact hv
theorem tv_same {ad ad' : Nat → Nat} {h : Mh} (he : ∀ n, dmh h n → ad' n = ad n) {v : MV} (hv : okv h v) : tv ad' v = tv ad v := by
  match v, hv with
  | .inl x, hv => rfl
  | .inr (.inl none), hv => rfl
  | .inr (.inl (some n)), hv => show va_rf (some (ad' n)) = va_rf (some (ad n)); rw [he n (hv n rfl)]
  | .inr (.inr x), hv => rfl
theorem lvf_same {ad ad' : Nat → Nat} {h : Mh} (he : ∀ n, dmh h n → ad' n = ad n) : ∀ (L : Lcs) (i : Nat), (∀ (k : Nat) (v : MV), L[k]? = some (some v) → okv h v) → lvf ad' i L = lvf ad i L
  | [], i, _ => rfl
  | none :: t, i, hL => lvf_same he t (i + 1) (fun k v hk => hL (k + 1) v (by simpa using hk))
  | some w :: t, i, hL => by
    simp only [lvf]
    rw [tv_same he (hL 0 w rfl), lvf_same he t (i + 1) (fun k v hk => hL (k + 1) v (by simpa using hk))]
theorem Lok.moved {ad ad' : Nat → Nat} {h h' : Mh} {L : Lcs} {ls : Array Slot} {nL : Nat} (H : Lok ad h L ls nL) (he : ∀ n, dmh h n → dmh h' n ∧ ad' n = ad n) : Lok ad' h' L ls nL := by
  refine ⟨H.1, ?_, fun k v hk => ⟨?_, (H.2.2 k v hk).2⟩⟩
  · rw [lvf_same (fun n hn => (he n hn).2) L 0 (fun k v hk => (H.2.2 k v hk).1)]
    exact H.2.1
  · have := (H.2.2 k v hk).1
    match v, this with
    | .inl x, hv => exact hv
    | .inr (.inl r), hv => exact fun n e => (he n (hv n e)).1
    | .inr (.inr x), hv => exact hv
theorem okv_moved {ad ad' : Nat → Nat} {h h' : Mh} (he : ∀ n, dmh h n → dmh h' n ∧ ad' n = ad n) {v : MV} (hv : okv h v) : okv h' v := by
  match v, hv with
  | .inl x, hv => exact hv
  | .inr (.inl r), hv => exact fun n e => (he n (hv n e)).1
  | .inr (.inr x), hv => exact hv
def Sok (h : Mh) (S : List MV) : Prop := ∀ v ∈ S, okv h v
theorem Sok.moved {ad ad' : Nat → Nat} {h h' : Mh} {S : List MV} (H : Sok h S) (he : ∀ n, dmh h n → dmh h' n ∧ ad' n = ad n) : Sok h' S ∧ S.map (tv ad') = S.map (tv ad) :=
  ⟨fun v hv => okv_moved he (H v hv), List.map_congr_left fun v hv => tv_same (fun n hn => (he n hn).2) (H v hv)⟩
theorem Rep.moved {D : va_G} {cA : Nat → ClassId} {ad : Nat → Nat} {h : Mh} {H : Heap} {A : Nat → Prop} {u U : State} (hvm : u.vm.Alike U.vm) (R : Rep D cA ad h H A u) : Rep D cA ad h H A U :=
  ⟨R.1, fun n hn => ⟨arrOfT_moved hvm (R.2.1 n hn).1, (R.2.1 n hn).2.moved hvm⟩, R.2.2⟩
theorem Rep.wider {D : va_G} {cA : Nat → ClassId} {ad : Nat → Nat} {h : Mh} {H : Heap} {A B : Nat → Prop} {U : State} (R : Rep D cA ad h H A U) (hAB : ∀ q, A q → B q) : Rep D cA ad h H B U := by
  obtain ⟨⟨dom, h1, h2, h3, h4⟩, r⟩ := R
  exact ⟨⟨dom, h1, h2, h3, h4.1, fun k q hq => hAB _ (h4.2 k q hq)⟩, r⟩
/-- the script, for the law alone: its length and its ints, at the name 0 -/
def Xsc (X : Option (Nat × (Nat → Int))) (ad0 : Nat → Nat) (dm0 : Nat → Prop) (A : Nat → Prop) (s : State) : Prop := match X with
  | none => True
  | some q => dm0 0 ∧ va_X (ad0 0) q.1 (fun j => Int32.ofInt (q.2 j)) s s.heap ∧ ad0 0 < s.heap.size ∧ ¬ A (ad0 0) ∧ ∀ j, rng (q.2 j)
/-- what stands through a method's body -/
def Cx (K : MKey) (d : Nat) (X : Option (Nat × (Nat → Int))) (l : Launch) (p : Program) (R : Room) (s : State) (m : MethodId) (args : Array Value) (meth : Method) (cd : Code) (D : va_G) (A : Nat → Prop) (ad0 : Nat → Nat) (dm0 : Nat → Prop) : Prop :=
  p.tables.exec = Jvm.exec ∧ cd.code = kB K ∧ meth.sig.returnType = kR K ∧ cd.maxLocals = kL K ∧ s.vm.findClass (kY K).cls = some m.cls ∧ (∀ w ∈ UG, w.before args s = true) ∧ meth.locks = false ∧ meth.name = (kY K).name ∧
  cd.exceptionTable.toList = tableOf (kH K) ∧ Kx D A s s.heap ∧ l.stackTraces = false ∧ d ≤ R.frames ∧ 40 * d ≤ R.locals ∧ kC K ≤ R.cells ∧ kS K ≤ R.slots ∧ (∀ q, s.heap.size ≤ q → A q) ∧ Xsc X ad0 dm0 A s
/-- THE JUDGEMENT: from this place, with these locals, stack and heap, and room for c cells of sl slots, the method comes to an end with P -/
def Ru (K : MKey) (d : Nat) (X : Option (Nat × (Nat → Int))) (P : Out → Mh → Prop) (pc : Nat) : Pd := fun L S h c sl =>
  ∀ (l : Launch) (p : Program) (e : Env) (R : Room) (s : State) (m : MethodId) (args : Array Value) (below : List Frame) (meth : Method) (cd : Code) (D : va_G) (A : Nat → Prop) (ad0 : Nat → Nat) (dm0 : Nat → Prop), Cx K d X l p R s m args meth cd D A ad0 dm0 →
  ∀ (ad : Nat → Nat) (cA : Nat → ClassId) (H : Heap) (locs : List Loc) (ls : Array Slot) (cells slots : Nat), Rep D cA ad h H A s → va_S A s.heap H locs → (∀ n, dm0 n → dmh h n ∧ ad n = ad0 n) → Lok ad h L ls (kL K) → Sok h S → cells + c ≤ kC K → slots + sl ≤ kS K →
    W p l e R s m args below meth cd H locs cells slots (vx_MQ below (Qn D P ad0 dm0 A) (Xn D P ad0 dm0 A) args s (kC K) (kS K) A) (F0 m pc ls (S.map (tv ad)))
def Imp (q r : Pd) : Prop := ∀ L S h c s, q L S h c s → r L S h c s
theorem imp_rfl {q : Pd} : Imp q q := fun _ _ _ _ _ h => h
theorem lv_args_lvf {ad : Nat → Nat} (n : Nat) : ∀ (as : List MV) (i : Nat), (∀ v ∈ as, cat1 v) → lv_args i (as.map (tv ad)) = lvf ad i (as.map some ++ List.replicate n none)
  | [], i, _ => by
    simp only [List.map_nil, lv_args, List.nil_append]
    induction n generalizing i with
    | zero => rfl
    | succ n ih => exact ih (i + 1)
  | v :: t, i, h => by
    have hv := tv_cat (ad := ad) (h v List.mem_cons_self)
    simp only [List.map_cons, lv_args, List.cons_append, lvf, hv]
    rw [if_neg (by omega), lv_args_lvf n t (i + 1) (fun w hw => h w (List.mem_cons_of_mem _ hw))]
theorem lg_sl_len {ad : Nat → Nat} : ∀ (as : List MV), (∀ v ∈ as, cat1 v) → (lg_sl (as.map (tv ad))).length = as.length
  | [], _ => rfl
  | v :: t, h => by
    have hv := tv_cat (ad := ad) (h v List.mem_cons_self)
    have ih := lg_sl_len (ad := ad) t (fun w hw => h w (List.mem_cons_of_mem _ hw))
    unfold lg_sl at ih ⊢
    simp only [List.map_cons, List.flatMap_cons, hv, List.length_append]
    rw [if_neg (by omega), ih]
    simp; omega
theorem Lok.entry {ad : Nat → Nat} {h : Mh} {as : List MV} {n : Nat} (hn : as.length ≤ n) (ha : ∀ v ∈ as, okv h v ∧ cat1 v) :
    Lok ad h (as.map some ++ List.replicate (n - as.length) none) ((lg_sl (as.map (tv ad)) ++ List.replicate (n - (lg_sl (as.map (tv ad))).length) Slot.unset).toArray) n := by
  have h1 := lg_sl_len (ad := ad) as (fun v hv => (ha v hv).2)
  refine ⟨by simp; omega, ?_, fun k v hk => ?_⟩
  · rw [← lv_args_lvf (n - as.length) as 0 (fun v hv => (ha v hv).2)]
    exact lv_entry (as.map (tv ad)) (by omega)
  · rcases List.mem_append.mp (List.mem_of_getElem? hk) with h2 | h2
    · obtain ⟨w, hw, e⟩ := List.mem_map.mp h2
      cases e
      exact ha _ hw
    · have := List.eq_of_mem_replicate h2
      cases this
/-- a contract out of its body -/
theorem Ct.of {K : MKey} {d : Nat} {as : List MV} {h : Mh} {P : Out → Mh → Prop} (hpn : plainName (kY K).cls = true) (hn : as.length ≤ kL K) (hb : Ru K d none P 0 (as.map some ++ List.replicate (kL K - as.length) none) [] h (kC K) (kS K)) : Ct K d as h P := by
  intro l D cA ad sz hl ha
  have main : ∀ (p : Program) (e : Env) (s : State) (m : MethodId) (args : Array Value) (below : List Frame) (meth : Method) (c : Code) (s₁ : State),
      BodyLoose p l (kY K) (headSpec (kW K) (kRm K d)) (kB K) (kL K) (kR K) e s m args below meth c s₁ → c.maxLocals = kL K → c.exceptionTable.toList = tableOf (kH K) → va_Pc (as.map (tv ad)) (fun U => U.heap.size = sz ∧ Rep D cA ad h U.heap (Ar ad h sz) U ∧ Kx D (Ar ad h sz) U U.heap) args s →
      W p l e (headSpec (kW K) (kRm K d)).room s m args below meth c s.heap [] 0 0 (vx_MQ below (Qn D P ad (dmh h) (Ar ad h sz)) (Xn D P ad (dmh h) (Ar ad h sz)) args s (kC K) (kS K) (Ar ad h sz)) (entryFrame m args (kL K)) := by
    intro p e s m args below meth c s₁ B hml htab hP
    obtain ⟨rfl, hsz, hR, hK⟩ := hP
    rw [lg_entry_eq]
    have hts := atoms_spec (ws := kW K) B.pre
    have hin : meth.name = (kY K).name := (name_of_methodNamed B.named B.method).1
    refine hb l p e (headSpec (kW K) (kRm K d)).room s m _ below meth c D (Ar ad h sz) ad (dmh h) ⟨B.exec, B.bytes, B.returns, hml, findClass_of_methodNamed B.named, fun w hw => hts w (List.mem_cons_of_mem _ hw), B.notSynchronized, hin, htab, hK, hl, Nat.le_refl _, Nat.le_refl _, Nat.le_refl _, Nat.le_refl _, fun q hq => Or.inr (by rw [hsz] at hq; exact hq), trivial⟩ ad cA s.heap [] _ 0 0 hR va_S.rf (fun n hn => ⟨hn, rfl⟩) (Lok.entry hn ha) (fun v hv => by cases hv) (by omega) (by omega)
  cases hh : kH K with
  | nil =>
    refine vx_ofW (cc := kB K) (maxL := kL K) (ret := kR K) (ws' := UG) hpn (by unfold kW codeW; rw [hh]) ?_
    intro p e s m args below meth c s₁ B hml hx hP
    refine main p e s m args below meth c s₁ B hml ?_ hP
    rw [hh]
    cases hc : c.exceptionTable.toList with
    | nil => rfl
    | cons a t => exact absurd (hx a (by rw [hc]; exact List.mem_cons_self)) id
  | cons q r =>
    refine vx_ofWH (cc := kB K) (maxL := kL K) (ret := kR K) (hh := q :: r) (ws' := UG) hpn (by unfold kW codeW; rw [hh]) ?_
    intro p e s m args below meth c s₁ B hml hP
    refine main p e s m args below meth c s₁ B hml ?_ hP
    rw [hh]
    exact vx_table (x := kY K) B (atoms_spec (ws := kW K) B.pre _ (by unfold kW codeW; rw [hh]; exact List.mem_cons_self))
