/-! the judgement gz_J: from pc, with these locals, stack and store, the method comes back with v and store g' so that Ph v g' -/
def gz_ws (M : gz_M) : List Cond := Cond.code M.1 M.2.1 M.2.2.1 M.2.2.2 :: gz_U
def gz_rm (h : Nat) : Room := { frames := h, cells := 0, slots := 0, locals := 64 * h }
def gz_cv (a : Nat → Nat) (v : Value) : Value := match v with
  | .ref j => .ref (a j)
  | w => w
def gz_kn (a : Nat → Nat) : Nat → List (Option Value) → List (Nat × Value)
  | _, [] => []
  | i, none :: t => gz_kn a (i + 1) t
  | i, some v :: t => (i, gz_cv a v) :: gz_kn a (i + 1) t
theorem gz_kn_mem {a : Nat → Nat} {i : Nat} {w : Value} : ∀ {ls : List (Option Value)} {n : Nat}, (i, w) ∈ gz_kn a n ls ↔ ∃ k v, i = n + k ∧ ls[k]? = some (some v) ∧ w = gz_cv a v := by
  intro ls
  induction ls with
  | nil => intro n; constructor
           · intro h; cases h
           · rintro ⟨k, v, -, h, -⟩; simp at h
  | cons x t ih =>
    intro n
    cases x with
    | none =>
      show (i, w) ∈ gz_kn a (n + 1) t ↔ _
      rw [ih]
      constructor
      · rintro ⟨k, v, h1, h2, h3⟩; exact ⟨k + 1, v, by omega, by simpa using h2, h3⟩
      · rintro ⟨k, v, h1, h2, h3⟩
        cases k with
        | zero => simp at h2
        | succ k => exact ⟨k, v, by omega, by simpa using h2, h3⟩
    | some u =>
      show (i, w) ∈ (n, gz_cv a u) :: gz_kn a (n + 1) t ↔ _
      rw [List.mem_cons, ih]
      constructor
      · rintro (h | ⟨k, v, h1, h2, h3⟩)
        · cases h; exact ⟨0, u, rfl, rfl, rfl⟩
        · exact ⟨k + 1, v, by omega, by simpa using h2, h3⟩
      · rintro ⟨k, v, h1, h2, h3⟩
        cases k with
        | zero => simp at h2; subst h2; left; rw [h1, h3]; rfl
        | succ k => right; exact ⟨k, v, by omega, by simpa using h2, h3⟩
def gz_has (a : Nat → Nat) (lsA : Array Slot) (nL : Nat) (ls : List (Option Value)) : Prop := lv_has lsA nL (gz_kn a 0 ls)
theorem gz_has.at {a : Nat → Nat} {lsA : Array Slot} {nL : Nat} {ls : List (Option Value)} (h : gz_has a lsA nL ls) {k : Nat} {v : Value} (hk : ls[k]? = some (some v)) : lsA[k]? = some (.val (gz_cv a v)) :=
  h.2.2 (k, gz_cv a v) (gz_kn_mem.mpr ⟨k, v, by omega, hk, rfl⟩)
theorem gz_cv_cat (a : Nat → Nat) (v : Value) : (gz_cv a v).category = v.category := by cases v <;> rfl
/-- the place below isn't the first half of a long -/
def gz_c1 (ls : List (Option Value)) (i : Nat) : Bool := match i with
  | 0 => true
  | k + 1 => match ls[k]? with
    | some (some v) => v.category == 1
    | _ => true
theorem gz_has.set1 {a : Nat → Nat} {lsA : Array Slot} {nL i : Nat} {v : Value} {ls : List (Option Value)} (hc : gz_c1 ls i = true)
    (h : lv_has lsA nL ((i, gz_cv a v) :: (gz_kn a 0 ls).filter (fun q => !(q.1 == i) && !(q.1 + 1 == i && q.2.category == 2)))) : gz_has a lsA nL (ls.set i (some v)) := by
  refine ⟨h.1, h.2.1, fun q hq => h.2.2 q ?_⟩
  obtain ⟨j, w⟩ := q
  obtain ⟨k, u, h1, h2, h3⟩ := gz_kn_mem.mp hq
  rw [List.getElem?_set] at h2
  by_cases hki : i = k
  · rw [if_pos hki] at h2
    by_cases hlt : i < ls.length
    · rw [if_pos hlt] at h2
      have hu : v = u := Option.some.inj (Option.some.inj h2)
      rw [h3, ← hu, h1, ← hki, Nat.zero_add]
      exact List.mem_cons_self
    · rw [if_neg hlt] at h2; cases h2
  · rw [if_neg hki] at h2
    refine List.mem_cons_of_mem _ (List.mem_filter.mpr ⟨gz_kn_mem.mpr ⟨k, u, h1, h2, h3⟩, ?_⟩)
    have e1 : (j == i) = false := by simp; omega
    rw [h3, gz_cv_cat]
    by_cases hj : j + 1 = i
    · have : i = k + 1 := by omega
      subst this
      unfold gz_c1 at hc
      simp only [h2] at hc
      have hcat : u.category = 1 := by simpa using hc
      simp [hcat, e1]
    · have e2 : (j + 1 == i) = false := by simp; omega
      simp [e1, e2]
theorem gz_has.set2 {a : Nat → Nat} {lsA : Array Slot} {nL i : Nat} {v : Value} {ls : List (Option Value)} (hc : gz_c1 ls i = true)
    (h : lv_has lsA nL ((i, gz_cv a v) :: (gz_kn a 0 ls).filter (fun q => !(q.1 == i) && (!(q.1 == i + 1) && !(q.1 + 1 == i && q.2.category == 2))))) : gz_has a lsA nL ((ls.set (i + 1) none).set i (some v)) := by
  refine ⟨h.1, h.2.1, fun q hq => h.2.2 q ?_⟩
  obtain ⟨j, w⟩ := q
  obtain ⟨k, u, h1, h2, h3⟩ := gz_kn_mem.mp hq
  rw [List.getElem?_set] at h2
  by_cases hki : i = k
  · rw [if_pos hki] at h2
    by_cases hlt : i < (ls.set (i + 1) none).length
    · rw [if_pos hlt] at h2
      have hu : v = u := Option.some.inj (Option.some.inj h2)
      rw [h3, ← hu, h1, ← hki, Nat.zero_add]
      exact List.mem_cons_self
    · rw [if_neg hlt] at h2; cases h2
  · rw [if_neg hki, List.getElem?_set] at h2
    by_cases hk2 : i + 1 = k
    · rw [if_pos hk2] at h2
      by_cases hl2 : i + 1 < ls.length
      · rw [if_pos hl2] at h2; cases h2
      · rw [if_neg hl2] at h2; cases h2
    · rw [if_neg hk2] at h2
      refine List.mem_cons_of_mem _ (List.mem_filter.mpr ⟨gz_kn_mem.mpr ⟨k, u, h1, h2, h3⟩, ?_⟩)
      have e1 : (j == i) = false := by simp; omega
      have e3 : (j == i + 1) = false := by simp; omega
      rw [h3, gz_cv_cat]
      by_cases hj : j + 1 = i
      · have : i = k + 1 := by omega
        subst this
        unfold gz_c1 at hc
        simp only [h2] at hc
        have hcat : u.category = 1 := by simpa using hc
        simp [hcat, e1, e3]
      · have e2 : (j + 1 == i) = false := by simp; omega
        simp [e1, e2, e3]
/-- what is known of less locals -/
def gz_sub (l' l : List (Option Value)) : Prop := ∀ (k : Nat) (v : Value), l'[k]? = some (some v) → l[k]? = some (some v)
theorem gz_sub0 : gz_sub [] [] := fun _ _ h => h
theorem gz_subk {x : Option Value} {l' l : List (Option Value)} (h : gz_sub l' l) : gz_sub (x :: l') (x :: l) := fun k v hk => by
  cases k with
  | zero => exact hk
  | succ k => exact h k v (by simpa using hk)
theorem gz_subn {x : Option Value} {l' l : List (Option Value)} (h : gz_sub l' l) : gz_sub (none :: l') (x :: l) := fun k v hk => by
  cases k with
  | zero => simp at hk
  | succ k => exact h k v (by simpa using hk)
theorem gz_has.sub {a : Nat → Nat} {lsA : Array Slot} {nL : Nat} {l' l : List (Option Value)} (h : gz_has a lsA nL l) (hs : gz_sub l' l) : gz_has a lsA nL l' := by
  refine ⟨h.1, h.2.1, fun q hq => ?_⟩
  obtain ⟨j, w⟩ := q
  obtain ⟨k, u, h1, h2, h3⟩ := gz_kn_mem.mp hq
  exact h.2.2 (j, w) (gz_kn_mem.mpr ⟨k, u, h1, hs k u h2, h3⟩)
/-- tables that nobody writes, by their cells' numbers -/
def gz_t0 (i : Nat) : Int32 := ([119, 2, 6, 5, 104, 2, 5, 4, 116, 0, 5, 0, 99, 0, 99, 20] : List Int32).getD i 0
def gz_t1 (i : Nat) : Int32 := ([120, 0, 5, 0, 121, 0, 4, 0, 98, 0, 3, 1, 112, 1, 4, 1] : List Int32).getD i 0
def gz_t2 (i : Nat) : Int32 := ([98, 97, 114, 112, 110, 116] : List Int32).getD i 0
def gz_sl : List Nat := [1, 6, 4, 4, 4]
def gz_sb : List (List Int32) := [[121], [98, 97, 114, 112, 110, 116], [119, 104, 116, 99], [120, 121, 98, 112], [104, 103, 116, 115]]
def gz_RS (a : Nat → Nat) (U : State) : Prop := vk_R "PrintsGoOnModel" 259 "whtc" (a 212) U ∧ vk_R "PrintsGoOnModel" 268 "xybp" (a 213) U ∧ vk_R "PrintsGoOnModel" 276 "hgts" (a 214) U ∧ vk_R "PrintsGoOnModel" 26 "y" (a 210) U ∧ vk_R "PrintsGoOnModel" 32 "barpnt" (a 211) U
/-- what lies about and is never written: three tables, five texts, statics of the JDK -/
def gz_RO (a : Nat → Nat) (A : Nat → Prop) (U : State) (H : Heap) : Prop :=
  ((va_Z "PrintsGoOn$ShoreReader" "RULE_ITEMS" "[I" (.ref (a 200)) A U H ∧ va_T .int (a 200) 16 (fun j => .int (gz_t0 j)) A U H) ∧
  (va_Z "PrintsGoOn$ShoreReader" "GOER_ITEMS" "[I" (.ref (a 201)) A U H ∧ va_T .int (a 201) 16 (fun j => .int (gz_t1 j)) A U H) ∧
  (va_Z "PrintsGoOn$Law" "LETTER_SIGNS" "[C" (.ref (a 202)) A U H ∧ va_T .char (a 202) 6 (fun j => .int (gz_t2 j)) A U H)) ∧
  vk_S 5 gz_sl gz_sb (fun i => a (210 + i)) (fun i => a (220 + i)) A U H ∧
  va_Z "java/lang/String" "COMPACT_STRINGS" "Z" (.int 1) A U H ∧
  (va_Z "jdk/internal/util/Preconditions" "SIOOBE_FORMATTER" "Ljava/util/function/BiFunction;" .null A U H ∨ va_Z "jdk/internal/util/Preconditions" "SIOOBE_FORMATTER" "Ljava/util/function/BiFunction;" (.ref (a 230)) A U H) ∧
  gz_RS a U
theorem gz_RO.moved1 {a : Nat → Nat} {A : Nat → Prop} {u U : State} {H : Heap} (hvm : u.vm.Alike U.vm) (hR : gz_RS a U) (h : gz_RO a A u H) : gz_RO a A U H :=
  ⟨⟨⟨h.1.1.1.moved hvm, h.1.1.2.moved hvm⟩, ⟨h.1.2.1.1.moved hvm, h.1.2.1.2.moved hvm⟩, ⟨h.1.2.2.1.moved hvm, h.1.2.2.2.moved hvm⟩⟩, h.2.1.moved hvm, h.2.2.1.moved hvm, h.2.2.2.1.elim (fun z => Or.inl (z.moved hvm)) (fun z => Or.inr (z.moved hvm)), hR⟩
theorem gz_RO.same {a : Nat → Nat} {A : Nat → Prop} {u U : State} {H : Heap} (hv : U.vm = u.vm) (h : gz_RO a A u H) : gz_RO a A U H :=
  gz_RO.moved1 (by rw [hv]; exact Vm.Alike.refl u.vm) ⟨vk_R.same hv h.2.2.2.2.1, vk_R.same hv h.2.2.2.2.2.1, vk_R.same hv h.2.2.2.2.2.2.1, vk_R.same hv h.2.2.2.2.2.2.2.1, vk_R.same hv h.2.2.2.2.2.2.2.2⟩ h
theorem gz_RO.warm {a : Nat → Nat} {A : Nat → Prop} {u U : State} {H : Heap} (hW : u.WarmedH U.vm) (h : gz_RO a A u H) : gz_RO a A U H :=
  gz_RO.moved1 hW.alike ⟨vk_R.warm hW h.2.2.2.2.1, vk_R.warm hW h.2.2.2.2.2.1, vk_R.warm hW h.2.2.2.2.2.2.1, vk_R.warm hW h.2.2.2.2.2.2.2.1, vk_R.warm hW h.2.2.2.2.2.2.2.2⟩ h
theorem gz_RO.kept {a : Nat → Nat} {A : Nat → Prop} {U : State} {H H1 : Heap} (h : gz_RO a A U H) (hq : ∀ a : Nat, a < H.size → ¬ A a → H1[a]? = H[a]?) : gz_RO a A U H1 :=
  ⟨⟨⟨h.1.1.1.kept hq, h.1.1.2.kept hq⟩, ⟨h.1.2.1.1.kept hq, h.1.2.1.2.kept hq⟩, ⟨h.1.2.2.1.kept hq, h.1.2.2.2.kept hq⟩⟩, h.2.1.kept hq, h.2.2.1.kept hq, h.2.2.2.1.elim (fun z => Or.inl (z.kept hq)) (fun z => Or.inr (z.kept hq)), h.2.2.2.2⟩
theorem gz_RO.narrow {a : Nat → Nat} {A B : Nat → Prop} {U : State} {H : Heap} (h : gz_RO a A U H) (hAB : ∀ q, B q → A q) : gz_RO a B U H :=
  ⟨⟨⟨h.1.1.1.narrow hAB, h.1.1.2.narrow hAB⟩, ⟨h.1.2.1.1.narrow hAB, h.1.2.1.2.narrow hAB⟩, ⟨h.1.2.2.1.narrow hAB, h.1.2.2.2.narrow hAB⟩⟩, h.2.1.narrow hAB, h.2.2.1.narrow hAB, h.2.2.2.1.elim (fun z => Or.inl (z.narrow hAB)) (fun z => Or.inr (z.narrow hAB)), h.2.2.2.2⟩
def gz_Q (La : gz_L) (D : va_G) (cs : Nat → ClassId) (a : Nat → Nat) (A : Nat → Prop) (Ph : Option Value → gz_S → Prop) : Array Value → State → Outcome → State → Prop := fun _ st oc t =>
  (∃ (v : Option Value) (g : gz_S), oc = .returned (v.map (gz_cv a)) ∧ Ph v g ∧ va_P D vwCl (gz_w cs La a g) t.heap ∧ va_K D vwCl (gz_ty cs) t ∧ va_D A (gz_w cs La a g)) ∧ va_F A st t
def gz_C (M : gz_M) (p : Program) (s : State) (m : MethodId) (args : Array Value) (meth : Method) (c : Code) (D : va_G) (cs : Nat → ClassId) (a : Nat → Nat) (A : Nat → Prop) : Prop :=
  p.tables.exec = Jvm.exec ∧ c.code = M.2.1 ∧ c.maxLocals = M.2.2.1 ∧ meth.sig.returnType = M.2.2.2 ∧ meth.locks = false ∧ s.vm.findClass M.1.cls = some m.cls ∧ (∀ w ∈ gz_ws M, w.before args s = true) ∧ va_K D vwCl (gz_ty cs) s ∧ gz_RO a A s s.heap ∧ ∀ q : Nat, s.heap.size ≤ q → A q
def gz_J (La : gz_L) (h : Nat) (M : gz_M) (pc : Nat) (ls : List (Option Value)) (st : List Value) (g : gz_S) (Ph : Option Value → gz_S → Prop) : Prop :=
  ∀ (p : Program) (l : Launch) (e : Env) (s : State) (m : MethodId) (args : Array Value) (below : List Frame) (meth : Method) (c : Code) (D : va_G) (cs : Nat → ClassId) (a : Nat → Nat) (A : Nat → Prop) (H : Heap) (locs : List Loc) (lsA : Array Slot),
    gz_C M p s m args meth c D cs a A → va_P D vwCl (gz_w cs La a g) H → va_D A (gz_w cs La a g) → va_S A s.heap H locs → gz_has a lsA M.2.2.1 ls →
    W p l e (gz_rm h) s m args below meth c H locs 0 0 (MQ below (gz_Q La D cs a A Ph) args s 0 0 A) (F0 m pc lsA (st.map (gz_cv a)))
/-- a method's contract -/
def gz_K (La : gz_L) (h : Nat) (M : gz_M) (av : List Value) (g : gz_S) (Ph : Option Value → gz_S → Prop) : Prop :=
  ∀ (l : Launch) (D : va_G) (cs : Nat → ClassId) (a : Nat → Nat) (sz : Nat),
    Met l M.1 (gz_ws M) (gz_rm h) (va_Pc (av.map (gz_cv a)) (fun U => U.heap.size = sz ∧ va_P D vwCl (gz_w cs La a g) U.heap ∧ va_K D vwCl (gz_ty cs) U ∧ va_D (fun _ => True) (gz_w cs La a g) ∧ gz_RO a (va_A (gz_w cs La a g) sz) U U.heap))
      (gz_Q La D cs a (va_A (gz_w cs La a g) sz) Ph) 0 0 (va_A (gz_w cs La a g) sz)
/-- the locals at a method's start -/
def gz_en : List Value → List (Option Value)
  | [] => []
  | v :: t => if v.category = 2 then some v :: none :: gz_en t else some v :: gz_en t
theorem gz_en_has {a : Nat → Nat} : ∀ {av : List Value} {i : Nat} {q : Nat × Value}, q ∈ gz_kn a i (gz_en av) → q ∈ lv_args i (av.map (gz_cv a)) := by
  intro av
  induction av with
  | nil => intro i q h; exact h
  | cons v t ih =>
    intro i q h
    show q ∈ (i, gz_cv a v) :: lv_args (if (gz_cv a v).category = 2 then i + 2 else i + 1) (t.map (gz_cv a))
    rw [gz_cv_cat]
    unfold gz_en at h
    by_cases hc : v.category = 2
    · rw [if_pos hc] at h ⊢
      rcases List.mem_cons.mp h with h | h
      · rw [h]; exact List.mem_cons_self
      · exact List.mem_cons_of_mem _ (ih h)
    · rw [if_neg hc] at h ⊢
      rcases List.mem_cons.mp h with h | h
      · rw [h]; exact List.mem_cons_self
      · exact List.mem_cons_of_mem _ (ih h)
theorem gz_kn_app {a : Nat → Nat} {n : Nat} : ∀ {ls : List (Option Value)} {i : Nat}, gz_kn a i (ls ++ List.replicate n none) = gz_kn a i ls := by
  intro ls
  induction ls with
  | nil =>
    intro i
    show gz_kn a i (List.replicate n none) = []
    induction n generalizing i with
    | zero => rfl
    | succ n ih => exact ih
  | cons x t ih =>
    intro i
    cases x with
    | none => exact ih
    | some v => show (i, gz_cv a v) :: gz_kn a (i + 1) (t ++ _) = (i, gz_cv a v) :: gz_kn a (i + 1) t; rw [ih]
theorem gz_lgsl {a : Nat → Nat} (av : List Value) : (lg_sl (av.map (gz_cv a))).length = (gz_en av).length := by
  induction av with
  | nil => rfl
  | cons v t ih =>
    show ((if (gz_cv a v).category = 2 then [Slot.val (gz_cv a v), .second] else [.val (gz_cv a v)]) ++ lg_sl (t.map (gz_cv a))).length = _
    rw [gz_cv_cat]
    unfold gz_en
    by_cases hc : v.category = 2
    · rw [if_pos hc, if_pos hc]; simp [ih]
    · rw [if_neg hc, if_neg hc]; simp [ih]
theorem gz_ofWF {l : Launch} {y : MethodName} {ws ws' : List Cond} {rm : Room} {Pc : Array Value → State → Prop} {Qc : Array Value → State → Outcome → State → Prop} {mc ms : Nat} {free : Addr → Prop} {cc : ByteArray} {maxL : Nat} {ret : Option FieldType}
    (hy : plainFor y = true) (hw : ws = Cond.code y cc maxL ret :: ws')
    (body : ∀ p e s m args below meth c s₁, BodyLoose p l y (headSpec ws rm) cc maxL ret e s m args below meth c s₁ → c.maxLocals = maxL → Pc args s →
      W p l e (headSpec ws rm).room s m args below meth c s.heap [] 0 0 (MQ below Qc args s mc ms free) (entryFrame m args maxL)) : Met l y ws rm Pc Qc mc ms free := by
  refine MetFree.of_bodySF (code := cc) (maxLocals := maxL) (ret := ret) hy ?_ ?_
  · intro args s m h hn
    obtain ⟨meth, c, h1, h2, h3, h4, h5, h6, -, -⟩ := Cond.code_spec hn (atoms_spec (ws := ws) h _ (by rw [hw]; exact List.mem_cons_self))
    exact ⟨meth, c, h1, h2, h3, h4, h5, h6⟩
  · intro p e s m args below meth c s₁ B hml hP _
    have hh0 : s₁.heap = s.heap := by rw [B.state]; rfl
    obtain ⟨t, a1, o, b1, b2, b3⟩ := body p e s m args below meth c s₁ B hml hP s₁ hh0 (Stand.of_body B)
    exact ⟨t, o, a1, b1, b2, ⟨b3.1, b3.2⟩⟩
theorem gz_K.of {La : gz_L} {h : Nat} {M : gz_M} {av : List Value} {g : gz_S} {Ph : Option Value → gz_S → Prop} (n : Nat) (hp : plainFor M.1 = true) (hn : (gz_en av).length + n = M.2.2.1)
    (k : gz_J La h M 0 (gz_en av ++ List.replicate n none) [] g Ph) : gz_K La h M av g Ph := by
  intro l D cs a sz
  refine gz_ofWF (cc := M.2.1) (maxL := M.2.2.1) (ret := M.2.2.2) hp rfl ?_
  intro p e s m args below meth c s₁ B hml hv
  obtain ⟨rfl, hsz, hP, hK, hD0, hR⟩ := hv
  subst hsz
  have hx := B.exec
  have hb := B.bytes
  have hr := B.returns
  have hts := atoms_spec (ws := gz_ws M) B.pre
  have hown : s.vm.findClass M.1.cls = some m.cls := findClass_of_methodNamed B.named
  have hlocks := B.notSynchronized
  have hl := lv_entry (av.map (gz_cv a)) (n := M.2.2.1) (by rw [gz_lgsl]; omega)
  rw [lg_entry_eq]
  exact k p l e s m _ below meth c D cs a _ s.heap [] _ ⟨hx, hb, hml, hr, hlocks, hown, hts, hK, hR, fun q hq => Or.inr hq⟩ hP (hD0.self) va_S.rf
    ⟨hl.1, hl.2.1, fun q hq => hl.2.2 q (gz_en_has (by rw [gz_kn_app] at hq; exact hq))⟩
